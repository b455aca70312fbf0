def R_M_faultOf (a : Int32) (σ : gS) : gP :=
 gd_g (gd_in a 1040) <|
 gd_j (α := gP) (
  if ((gA σ 42 a.toNatClampNeg) &&& (127 : Int32)) = 103 then
   some (.inl (some (.int 1)))
  else
   some (.inl (some (.int 2)))) fun J1 =>
 if ((gA σ 42 a.toNatClampNeg) &&& (127 : Int32)) = 103 then
  J1
 else
  if ((gA σ 42 a.toNatClampNeg) &&& (127 : Int32)) = 23 then
   J1
  else
   gd_j (α := gP) (
    gd_pi (R_M_kind a σ) fun r3 =>
    gd_j (α := gP) (
     gd_g (gd_in a 1040) <|
     if ((f_M_offset (gA σ 42 a.toNatClampNeg)) - (f_M_offset (gA σ 42 a.toNatClampNeg)) / (4 : Int32) * (4 : Int32)) = 0 then
      gd_pi (R_M_target a σ) fun r5 =>
      if r5 < 0 then
       some (.inl (some (.int 5)))
      else
       gd_pi (R_M_target a σ) fun r6 =>
       if r6 ≤ (gI σ 41 2) then
        some (.inl (some (.int 0)))
       else
        some (.inl (some (.int 5)))
     else
      some (.inl (some (.int 5)))) fun J4 =>
    if r3 = 5 then
     J4
    else
     if r3 = 6 then
      J4
     else
      if 0 ≤ r3 then
       some (.inl (some (.int 0)))
      else
       some (.inl (some (.int 4)))) fun J2 =>
   if ((gA σ 42 a.toNatClampNeg) &&& (127 : Int32)) = 111 then
    gd_g (gd_in a 1040) <|
    if (f_M_d (gA σ 42 a.toNatClampNeg)) = 0 then
     J2
    else
     some (.inl (some (.int 3)))
   else
    J2
set_option maxRecDepth 20000 in
theorem X_M_faultOf (a : Int32) (σ : gS) (r0 : gQ) (h : R_M_faultOf a σ = some r0) : gv_K m_M_faultOf [.ref 41, .int a] σ (gv_is r0 σ) := by
  unfold R_M_faultOf at h
  show gv_V m_M_faultOf 1 true 0 [some (.ref 41), some (.int a), none, none] [] σ (gv_is r0 σ)
  refine gv_aload_n (n := 0) (pc' := 1) (by decide +kernel) rfl rfl ?_
  refine gv_getr lk_9_7 (by decide +kernel) rfl rfl (pc' := 4) rfl ?_
  refine gv_iload_n (n := 1) (pc' := 5) (by decide +kernel) rfl rfl ?_
  obtain ⟨g5, h⟩ := gd_gE h
  refine gj_iald _ (pc' := 6) (by decide +kernel) rfl (gd_inv g5) rfl rfl ?_
  refine gv_bipush (n := 127) (v := 127) (pc' := 8) (by decide +kernel) (by decide) rfl ?_
  refine gv_iand (pc' := 9) (by decide +kernel) rfl ?_
  refine gv_istore_n (n := 2) (pc' := 10) (by decide +kernel) (by decide) rfl ?_
  refine gv_iload_n (n := 2) (pc' := 11) (by decide +kernel) rfl rfl ?_
  refine gv_bipush (n := 103) (v := 103) (pc' := 13) (by decide +kernel) (by decide) rfl ?_
  refine gd_jC (fun J1 => J1 = some r0 → gv_V m_M_faultOf 1 true 22 [none, none, some (.int ((gA σ 42 a.toNatClampNeg) &&& (127 : Int32))), none] [] σ (gv_is r0 σ)) h (fun  h => ?_) (fun J1 hJ1 h => ?_)
  · refine gv_iload_n (n := 2) (pc' := 23) (by decide +kernel) rfl rfl ?_
    refine gv_bipush (n := 103) (v := 103) (pc' := 25) (by decide +kernel) (by decide) rfl ?_
    refine gv_icmp_ne (off := 7) (tgt := 32) (pc' := 28) (by decide +kernel) (by decide) rfl (fun c25 => ?_) (fun c25 => ?_)
    · replace h := gd_F c25 h
      refine gv_iconst (n := 2) (v := 2) (pc' := 33) (by decide +kernel) (by decide) rfl ?_
      exact gv_iret .int (by decide +kernel) rfl rfl (by decide) (by decide) (gd_pE h)
    · replace h := gd_T c25 h
      refine gv_iconst (n := 1) (v := 1) (pc' := 29) (by decide +kernel) (by decide) rfl ?_
      refine gv_goto (off := 4) (tgt := 33) (by decide +kernel) (by decide) ?_
      exact gv_iret .int (by decide +kernel) rfl rfl (by decide) (by decide) (gd_pE h)
  · refine gv_icmp_eq (off := 9) (tgt := 22) (pc' := 16) (by decide +kernel) (by decide) rfl (fun c13 => ?_) (fun c13 => ?_)
    · replace h := gd_T c13 h
      exact gd_ar (gl_n (gl_n (gl_s (gl_n gl_z)))) (fun _ => rfl) (hJ1  h)
    · replace h := gd_F c13 h
      refine gv_iload_n (n := 2) (pc' := 17) (by decide +kernel) rfl rfl ?_
      refine gv_bipush (n := 23) (v := 23) (pc' := 19) (by decide +kernel) (by decide) rfl ?_
      refine gv_icmp_ne (off := 15) (tgt := 34) (pc' := 22) (by decide +kernel) (by decide) rfl (fun c19 => ?_) (fun c19 => ?_)
      · replace h := gd_F c19 h
        refine gv_iload_n (n := 2) (pc' := 35) (by decide +kernel) rfl rfl ?_
        refine gv_bipush (n := 111) (v := 111) (pc' := 37) (by decide +kernel) (by decide) rfl ?_
        refine gd_jC (fun J2 => J2 = some r0 → gv_V m_M_faultOf 1 true 54 [some (.ref 41), some (.int a), none, none] [] σ (gv_is r0 σ)) h (fun  h => ?_) (fun J2 hJ2 h => ?_)
        · refine gv_aload_n (n := 0) (pc' := 55) (by decide +kernel) rfl rfl ?_
          refine gv_iload_n (n := 1) (pc' := 56) (by decide +kernel) rfl rfl ?_
          refine gd_evi (w' := true) (pc' := 59) (X_M_kind _ _) h md_M_kind vd_M_kind (Or.inl ml_9_130) (by decide +kernel) (by decide) rfl rfl rfl (Nat.le_of_ble_eq_true rfl) (Nat.le_of_ble_eq_true rfl) (by decide) rfl (fun z => ⟨rfl, z⟩) (by decide) rfl (fun r3 h => ?_)
          refine gv_istore_n (n := 3) (pc' := 60) (by decide +kernel) (by decide) rfl ?_
          refine gv_iload_n (n := 3) (pc' := 61) (by decide +kernel) rfl rfl ?_
          refine gv_iconst (n := 5) (v := 5) (pc' := 62) (by decide +kernel) (by decide) rfl ?_
          refine gd_jC (fun J4 => J4 = some r0 → gv_V m_M_faultOf 1 true 71 [some (.ref 41), some (.int a), none, none] [] σ (gv_is r0 σ)) h (fun  h => ?_) (fun J4 hJ4 h => ?_)
          · refine gv_aload_n (n := 0) (pc' := 72) (by decide +kernel) rfl rfl ?_
            refine gv_getr lk_9_7 (by decide +kernel) rfl rfl (pc' := 75) rfl ?_
            refine gv_iload_n (n := 1) (pc' := 76) (by decide +kernel) rfl rfl ?_
            obtain ⟨g76, h⟩ := gd_gE h
            refine gj_iald _ (pc' := 77) (by decide +kernel) rfl (gd_inv g76) rfl rfl ?_
            refine gv_csi (w' := true) (pc' := 80) (y_M_offset _ _) md_M_offset sd_M_offset (Or.inl ml_9_127) (by decide +kernel) (by decide) rfl (Nat.le_of_ble_eq_true rfl) (Nat.le_of_ble_eq_true rfl) (by decide) rfl (fun z => ⟨rfl, z⟩) (by decide) rfl ?_
            refine gv_iconst (n := 4) (v := 4) (pc' := 81) (by decide +kernel) (by decide) rfl ?_
            refine gv_irem (pc' := 82) (by decide +kernel) (by decide) rfl ?_
            refine gv_if_ne (off := 23) (tgt := 105) (pc' := 85) (by decide +kernel) (by decide) rfl (fun c82 => ?_) (fun c82 => ?_)
            · replace h := gd_F c82 h
              refine gv_iconst (n := 5) (v := 5) (pc' := 106) (by decide +kernel) (by decide) rfl ?_
              refine gv_goto (off := 4) (tgt := 110) (by decide +kernel) (by decide) ?_
              exact gv_iret .int (by decide +kernel) rfl rfl (by decide) (by decide) (gd_pE h)
            · replace h := gd_T c82 h
              refine gv_aload_n (n := 0) (pc' := 86) (by decide +kernel) rfl rfl ?_
              refine gv_iload_n (n := 1) (pc' := 87) (by decide +kernel) rfl rfl ?_
              refine gd_evi (w' := true) (pc' := 90) (X_M_target _ _) h md_M_target vd_M_target (Or.inl ml_9_133) (by decide +kernel) (by decide) rfl rfl rfl (Nat.le_of_ble_eq_true rfl) (Nat.le_of_ble_eq_true rfl) (by decide) rfl (fun z => ⟨rfl, z⟩) (by decide) rfl (fun r5 h => ?_)
              refine gv_if_lt (off := 15) (tgt := 105) (pc' := 93) (by decide +kernel) (by decide) rfl (fun c90 => ?_) (fun c90 => ?_)
              · replace h := gd_T c90 h
                refine gv_iconst (n := 5) (v := 5) (pc' := 106) (by decide +kernel) (by decide) rfl ?_
                refine gv_goto (off := 4) (tgt := 110) (by decide +kernel) (by decide) ?_
                exact gv_iret .int (by decide +kernel) rfl rfl (by decide) (by decide) (gd_pE h)
              · replace h := gd_F c90 h
                refine gv_aload_n (n := 0) (pc' := 94) (by decide +kernel) rfl rfl ?_
                refine gv_iload_n (n := 1) (pc' := 95) (by decide +kernel) rfl rfl ?_
                refine gd_evi (w' := true) (pc' := 98) (X_M_target _ _) h md_M_target vd_M_target (Or.inl ml_9_133) (by decide +kernel) (by decide) rfl rfl rfl (Nat.le_of_ble_eq_true rfl) (Nat.le_of_ble_eq_true rfl) (by decide) rfl (fun z => ⟨rfl, z⟩) (by decide) rfl (fun r6 h => ?_)
                refine gv_aload_n (n := 0) (pc' := 99) (by decide +kernel) rfl rfl ?_
                refine gv_getj lk_9_102 (by decide +kernel) rfl rfl (pc' := 102) rfl ?_
                refine gv_icmp_le (off := 7) (tgt := 109) (pc' := 105) (by decide +kernel) (by decide) rfl (fun c102 => ?_) (fun c102 => ?_)
                · replace h := gd_T c102 h
                  refine gv_iconst (n := 0) (v := 0) (pc' := 110) (by decide +kernel) (by decide) rfl ?_
                  exact gv_iret .int (by decide +kernel) rfl rfl (by decide) (by decide) (gd_pE h)
                · replace h := gd_F c102 h
                  refine gv_iconst (n := 5) (v := 5) (pc' := 106) (by decide +kernel) (by decide) rfl ?_
                  refine gv_goto (off := 4) (tgt := 110) (by decide +kernel) (by decide) ?_
                  exact gv_iret .int (by decide +kernel) rfl rfl (by decide) (by decide) (gd_pE h)
          · refine gv_icmp_eq (off := 9) (tgt := 71) (pc' := 65) (by decide +kernel) (by decide) rfl (fun c62 => ?_) (fun c62 => ?_)
            · replace h := gd_T c62 h
              exact gd_ar (gl_s (gl_s (gl_n (gl_n gl_z)))) (fun _ => rfl) (hJ4  h)
            · replace h := gd_F c62 h
              refine gv_iload_n (n := 3) (pc' := 66) (by decide +kernel) rfl rfl ?_
              refine gv_bipush (n := 6) (v := 6) (pc' := 68) (by decide +kernel) (by decide) rfl ?_
              refine gv_icmp_ne (off := 43) (tgt := 111) (pc' := 71) (by decide +kernel) (by decide) rfl (fun c68 => ?_) (fun c68 => ?_)
              · replace h := gd_F c68 h
                refine gv_iload_n (n := 3) (pc' := 112) (by decide +kernel) rfl rfl ?_
                refine gv_if_ge (off := 7) (tgt := 119) (pc' := 115) (by decide +kernel) (by decide) rfl (fun c112 => ?_) (fun c112 => ?_)
                · replace h := gd_T c112 h
                  refine gv_iconst (n := 0) (v := 0) (pc' := 120) (by decide +kernel) (by decide) rfl ?_
                  exact gv_iret .int (by decide +kernel) rfl rfl (by decide) (by decide) (gd_pE h)
                · replace h := gd_F c112 h
                  refine gv_iconst (n := 4) (v := 4) (pc' := 116) (by decide +kernel) (by decide) rfl ?_
                  refine gv_goto (off := 4) (tgt := 120) (by decide +kernel) (by decide) ?_
                  exact gv_iret .int (by decide +kernel) rfl rfl (by decide) (by decide) (gd_pE h)
              · replace h := gd_T c68 h
                exact gd_ar (gl_s (gl_s (gl_n (gl_n gl_z)))) (fun _ => rfl) (hJ4  h)
        · refine gv_icmp_ne (off := 17) (tgt := 54) (pc' := 40) (by decide +kernel) (by decide) rfl (fun c37 => ?_) (fun c37 => ?_)
          · replace h := gd_F c37 h
            exact gd_ar (gl_s (gl_s (gl_n (gl_n gl_z)))) (fun _ => rfl) (hJ2  h)
          · replace h := gd_T c37 h
            refine gv_aload_n (n := 0) (pc' := 41) (by decide +kernel) rfl rfl ?_
            refine gv_getr lk_9_7 (by decide +kernel) rfl rfl (pc' := 44) rfl ?_
            refine gv_iload_n (n := 1) (pc' := 45) (by decide +kernel) rfl rfl ?_
            obtain ⟨g45, h⟩ := gd_gE h
            refine gj_iald _ (pc' := 46) (by decide +kernel) rfl (gd_inv g45) rfl rfl ?_
            refine gv_csi (w' := true) (pc' := 49) (y_M_d _ _) md_M_d sd_M_d (Or.inl ml_9_121) (by decide +kernel) (by decide) rfl (Nat.le_of_ble_eq_true rfl) (Nat.le_of_ble_eq_true rfl) (by decide) rfl (fun z => ⟨rfl, z⟩) (by decide) rfl ?_
            refine gv_if_eq (off := 5) (tgt := 54) (pc' := 52) (by decide +kernel) (by decide) rfl (fun c49 => ?_) (fun c49 => ?_)
            · replace h := gd_T c49 h
              exact gd_ar (gl_s (gl_s (gl_n (gl_n gl_z)))) (fun _ => rfl) (hJ2  h)
            · replace h := gd_F c49 h
              refine gv_iconst (n := 3) (v := 3) (pc' := 53) (by decide +kernel) (by decide) rfl ?_
              exact gv_iret .int (by decide +kernel) rfl rfl (by decide) (by decide) (gd_pE h)
      · replace h := gd_T c19 h
        exact gd_ar (gl_n (gl_n (gl_s (gl_n gl_z)))) (fun _ => rfl) (hJ1  h)
def B_M_begin_53 (ag15 : Int32 → gS → gR) (n_1_13 : Int32) (s14 : gS) : gR :=
 if 256 ≤ n_1_13 then
  some (.inl none, s14)
 else
  gd_g (gd_in n_1_13 256) <|
  gd_s (gs_A s14 45 n_1_13.toNatClampNeg 0) fun s16 =>
  ag15 (n_1_13 + 1) s16
set_option maxRecDepth 20000 in
theorem L_M_begin_53 (r0 : gQ × gS) (n : Nat) : ∀ (n_1_13 : Int32) (s14 : gS), gd_lp (fun _ _ => none) (B_M_begin_53) n n_1_13 s14 = some r0 → gv_V m_M_begin 1 false 53 [some (.ref 41), some (.int n_1_13)] [] s14 (gv_is r0.1 r0.2) := by
  refine gd_lpC (fun (ag15 : Int32 → gS → gR) => ∀ (n_1_13 : Int32) (s14 : gS), ag15 n_1_13 s14 = some r0 → gv_V m_M_begin 1 false 53 [some (.ref 41), some (.int n_1_13)] [] s14 (gv_is r0.1 r0.2)) (fun n_1_13 s14 h => by cases h) (fun ag15 ih n_1_13 s14 h => ?_) n
  unfold B_M_begin_53 at h
  refine gv_iload_n (n := 1) (pc' := 54) (by decide +kernel) rfl rfl ?_
  refine gv_sipush (n := 256) (v := 256) (pc' := 57) (by decide +kernel) (by decide) rfl ?_
  refine gv_icmp_ge (off := 16) (tgt := 73) (pc' := 60) (by decide +kernel) (by decide) rfl (fun c57 => ?_) (fun c57 => ?_)
  · replace h := gd_T c57 h
    exact gv_ret (by decide +kernel) rfl (by decide) (by decide) (gd_rE h)
  · replace h := gd_F c57 h
    refine gv_aload_n (n := 0) (pc' := 61) (by decide +kernel) rfl rfl ?_
    refine gv_getr lk_9_23 (by decide +kernel) rfl rfl (pc' := 64) rfl ?_
    refine gv_iload_n (n := 1) (pc' := 65) (by decide +kernel) rfl rfl ?_
    refine gv_iconst (n := 0) (v := 0) (pc' := 66) (by decide +kernel) (by decide) rfl ?_
    obtain ⟨g66, h⟩ := gd_gE h
    refine gd_iast (pc' := 67) (by decide +kernel) rfl (gd_inv g66) rfl h (fun s16 h => ?_)
    refine gv_iincc (i := 1) (n := 1) (c := 1) (pc' := 70) (by decide +kernel) rfl (by decide) (by decide) rfl ?_
    refine gv_goto (off := -17) (tgt := 53) (by decide +kernel) (by decide) ?_
    exact gd_ar (gl_s (gl_s gl_z)) (fun z => by cases z) (ih _ _ h)
def B_M_begin_32 (k10 : gS → gR) (ag9 : Int32 → gS → gR) (n_1_7 : Int32) (s8 : gS) : gR :=
 if 32 ≤ n_1_7 then
  k10 s8
 else
  gd_g (gd_in n_1_7 32) <|
  gd_s (gs_A s8 44 n_1_7.toNatClampNeg 0) fun s11 =>
  ag9 (n_1_7 + 1) s11
set_option maxRecDepth 20000 in
theorem L_M_begin_32 (k10 : gS → gR) (r0 : gQ × gS) (hk10 : ∀ (s12 : gS), k10 s12 = some r0 → gv_V m_M_begin 1 false 51 [some (.ref 41), none] [] s12 (gv_is r0.1 r0.2)) (n : Nat) : ∀ (n_1_7 : Int32) (s8 : gS), gd_lp (fun _ _ => none) (B_M_begin_32 k10) n n_1_7 s8 = some r0 → gv_V m_M_begin 1 false 32 [some (.ref 41), some (.int n_1_7)] [] s8 (gv_is r0.1 r0.2) := by
  refine gd_lpC (fun (ag9 : Int32 → gS → gR) => ∀ (n_1_7 : Int32) (s8 : gS), ag9 n_1_7 s8 = some r0 → gv_V m_M_begin 1 false 32 [some (.ref 41), some (.int n_1_7)] [] s8 (gv_is r0.1 r0.2)) (fun n_1_7 s8 h => by cases h) (fun ag9 ih n_1_7 s8 h => ?_) n
  unfold B_M_begin_32 at h
  refine gv_iload_n (n := 1) (pc' := 33) (by decide +kernel) rfl rfl ?_
  refine gv_bipush (n := 32) (v := 32) (pc' := 35) (by decide +kernel) (by decide) rfl ?_
  refine gv_icmp_ge (off := 16) (tgt := 51) (pc' := 38) (by decide +kernel) (by decide) rfl (fun c35 => ?_) (fun c35 => ?_)
  · replace h := gd_T c35 h
    exact gd_ar (gl_s (gl_n gl_z)) (fun z => by cases z) (hk10 _ h)
  · replace h := gd_F c35 h
    refine gv_aload_n (n := 0) (pc' := 39) (by decide +kernel) rfl rfl ?_
    refine gv_getr lk_9_20 (by decide +kernel) rfl rfl (pc' := 42) rfl ?_
    refine gv_iload_n (n := 1) (pc' := 43) (by decide +kernel) rfl rfl ?_
    refine gv_iconst (n := 0) (v := 0) (pc' := 44) (by decide +kernel) (by decide) rfl ?_
    obtain ⟨g44, h⟩ := gd_gE h
    refine gd_iast (pc' := 45) (by decide +kernel) rfl (gd_inv g44) rfl h (fun s11 h => ?_)
    refine gv_iincc (i := 1) (n := 1) (c := 1) (pc' := 48) (by decide +kernel) rfl (by decide) (by decide) rfl ?_
    refine gv_goto (off := -16) (tgt := 32) (by decide +kernel) (by decide) ?_
    exact gd_ar (gl_s (gl_s gl_z)) (fun z => by cases z) (ih _ _ h)
def F_M_begin (σ : gS) : gR :=
 gd_s (gs_I σ 41 5 1) fun s1 =>
 gd_s (gs_I s1 41 20 0) fun s2 =>
 gd_s (gs_I s2 41 7 0) fun s3 =>
 gd_s (gs_I s3 41 11 0) fun s4 =>
 gd_s (gs_I s4 41 18 0) fun s5 =>
 gd_s (gs_I s5 41 19 0) fun s6 =>
 gd_j (α := gS → gR) (fun (s12 : gS) =>
  gd_lp (fun _ _ => none) (B_M_begin_53) gd_N 0 s12) fun k10 =>
 gd_lp (fun _ _ => none) (B_M_begin_32 k10) gd_N 0 s6
set_option maxRecDepth 20000 in
theorem X_M_begin (σ : gS) (r0 : gQ × gS) (h : F_M_begin σ = some r0) : gv_K m_M_begin [.ref 41] σ (gv_is r0.1 r0.2) := by
  unfold F_M_begin at h
  show gv_V m_M_begin 1 true 0 [some (.ref 41), none] [] σ (gv_is r0.1 r0.2)
  refine gv_aload_n (n := 0) (pc' := 1) (by decide +kernel) rfl rfl ?_
  refine gv_iconst (n := 1) (v := 1) (pc' := 2) (by decide +kernel) (by decide) rfl ?_
  refine gd_puti lp_9_95 (by decide +kernel) rfl rfl rfl rfl (pc' := 5) rfl h (fun s1 h => ?_)
  refine gv_aload_n (n := 0) (pc' := 6) (by decide +kernel) rfl rfl ?_
  refine gv_iconst (n := 0) (v := 0) (pc' := 7) (by decide +kernel) (by decide) rfl ?_
  refine gd_puti lp_9_142 (by decide +kernel) rfl rfl rfl rfl (pc' := 10) rfl h (fun s2 h => ?_)
  refine gv_aload_n (n := 0) (pc' := 11) (by decide +kernel) rfl rfl ?_
  refine gv_iconst (n := 0) (v := 0) (pc' := 12) (by decide +kernel) (by decide) rfl ?_
  refine gd_puti lp_9_145 (by decide +kernel) rfl rfl rfl rfl (pc' := 15) rfl h (fun s3 h => ?_)
  refine gv_aload_n (n := 0) (pc' := 16) (by decide +kernel) rfl rfl ?_
  refine gv_iconst (n := 0) (v := 0) (pc' := 17) (by decide +kernel) (by decide) rfl ?_
  refine gd_puti lp_9_148 (by decide +kernel) rfl rfl rfl rfl (pc' := 20) rfl h (fun s4 h => ?_)
  refine gv_aload_n (n := 0) (pc' := 21) (by decide +kernel) rfl rfl ?_
  refine gv_iconst (n := 0) (v := 0) (pc' := 22) (by decide +kernel) (by decide) rfl ?_
  refine gd_puti lp_9_151 (by decide +kernel) rfl rfl rfl rfl (pc' := 25) rfl h (fun s5 h => ?_)
  refine gv_aload_n (n := 0) (pc' := 26) (by decide +kernel) rfl rfl ?_
  refine gv_iconst (n := 0) (v := 0) (pc' := 27) (by decide +kernel) (by decide) rfl ?_
  refine gd_puti lp_9_154 (by decide +kernel) rfl rfl rfl rfl (pc' := 30) rfl h (fun s6 h => ?_)
  refine gv_iconst (n := 0) (v := 0) (pc' := 31) (by decide +kernel) (by decide) rfl ?_
  refine gv_istore_n (n := 1) (pc' := 32) (by decide +kernel) (by decide) rfl ?_
  refine gd_jC (fun k10 => ∀ (s12 : gS), k10 s12 = some r0 → gv_V m_M_begin 1 false 51 [some (.ref 41), none] [] s12 (gv_is r0.1 r0.2)) h (fun s12 h => ?_) (fun k10 hk10 h => ?_)
  · refine gv_iconst (n := 0) (v := 0) (pc' := 52) (by decide +kernel) (by decide) rfl ?_
    refine gv_istore_n (n := 1) (pc' := 53) (by decide +kernel) (by decide) rfl ?_
    exact gd_ar (gl_s (gl_s gl_z)) (fun z => by cases z) (L_M_begin_53 r0 _ _ _ h)
  exact gd_ar (gl_s (gl_s gl_z)) (fun z => by cases z) (L_M_begin_32 _ r0 hk10 _ _ _ h)
def B_M_load_7 (k5 : Int32 → Int32 → gS → gR) (k6 : gS → gR) (ag4 : Int32 → gS → gR) (n_1_2 : Int32) (s3 : gS) : gR :=
 if (gI s3 41 2) ≤ n_1_2 then
  k6 s3
 else
  gd_qi (R_M_faultOf n_1_2 s3) s3 fun r7 =>
  if r7 ≤ 0 then
   ag4 (n_1_2 + 1) s3
  else
   k5 n_1_2 r7 s3
set_option maxRecDepth 20000 in
theorem L_M_load_7 (k5 : Int32 → Int32 → gS → gR) (k6 : gS → gR) (r0 : gQ × gS) (hk5 : ∀ (v9 : Int32) (v10 : Int32) (s8 : gS), k5 v9 v10 s8 = some r0 → gv_V m_M_load 1 false 25 [some (.ref 41), some (.int v9), some (.int v10)] [] s8 (gv_is r0.1 r0.2)) (hk6 : ∀ (s13 : gS), k6 s13 = some r0 → gv_V m_M_load 1 false 43 [some (.ref 41), none, none] [] s13 (gv_is r0.1 r0.2)) (n : Nat) : ∀ (n_1_2 : Int32) (s3 : gS), gd_lp (fun _ _ => none) (B_M_load_7 k5 k6) n n_1_2 s3 = some r0 → gv_V m_M_load 1 false 7 [some (.ref 41), some (.int n_1_2), none] [] s3 (gv_is r0.1 r0.2) := by
  refine gd_lpC (fun (ag4 : Int32 → gS → gR) => ∀ (n_1_2 : Int32) (s3 : gS), ag4 n_1_2 s3 = some r0 → gv_V m_M_load 1 false 7 [some (.ref 41), some (.int n_1_2), none] [] s3 (gv_is r0.1 r0.2)) (fun n_1_2 s3 h => by cases h) (fun ag4 ih n_1_2 s3 h => ?_) n
  unfold B_M_load_7 at h
  refine gv_iload_n (n := 1) (pc' := 8) (by decide +kernel) rfl rfl ?_
  refine gv_aload_n (n := 0) (pc' := 9) (by decide +kernel) rfl rfl ?_
  refine gv_getj lk_9_102 (by decide +kernel) rfl rfl (pc' := 12) rfl ?_
  refine gv_icmp_ge (off := 31) (tgt := 43) (pc' := 15) (by decide +kernel) (by decide) rfl (fun c12 => ?_) (fun c12 => ?_)
  · replace h := gd_T c12 h
    exact gd_ar (gl_s (gl_n (gl_n gl_z))) (fun z => by cases z) (hk6 _ h)
  · replace h := gd_F c12 h
    refine gv_aload_n (n := 0) (pc' := 16) (by decide +kernel) rfl rfl ?_
    refine gv_iload_n (n := 1) (pc' := 17) (by decide +kernel) rfl rfl ?_
    refine gd_dvi (w' := false) (pc' := 20) (X_M_faultOf _ _) h md_M_faultOf vd_M_faultOf (Or.inl ml_9_157) (by decide +kernel) (by decide) rfl rfl rfl (Nat.le_of_ble_eq_true rfl) (Nat.le_of_ble_eq_true rfl) (by decide) rfl (fun z => by cases z) (by decide) rfl (fun r7 h => ?_)
    refine gv_istore_n (n := 2) (pc' := 21) (by decide +kernel) (by decide) rfl ?_
    refine gv_iload_n (n := 2) (pc' := 22) (by decide +kernel) rfl rfl ?_
    refine gv_if_le (off := 15) (tgt := 37) (pc' := 25) (by decide +kernel) (by decide) rfl (fun c22 => ?_) (fun c22 => ?_)
    · replace h := gd_T c22 h
      refine gv_iincc (i := 1) (n := 1) (c := 1) (pc' := 40) (by decide +kernel) rfl (by decide) (by decide) rfl ?_
      refine gv_goto (off := -33) (tgt := 7) (by decide +kernel) (by decide) ?_
      exact gd_ar (gl_s (gl_s (gl_n gl_z))) (fun z => by cases z) (ih _ _ h)
    · replace h := gd_F c22 h
      exact gd_ar (gl_s (gl_s (gl_s gl_z))) (fun z => by cases z) (hk5 _ _ _ h)
def F_M_load (σ : gS) : gR :=
 gd_s (gs_I σ 41 0 0) fun s1 =>
 gd_j (α := Int32 → Int32 → gS → gR) (fun (v9 : Int32) (v10 : Int32) (s8 : gS) =>
  gd_s (gs_I s8 41 5 0) fun s11 =>
  gd_s (gs_I s11 41 6 v9) fun s12 =>
  some (.inl (some (.int v10)), s12)) fun k5 =>
 gd_j (α := gS → gR) (fun (s13 : gS) =>
  gd_s (gs_I s13 41 6 (-1)) fun s14 =>
  gd_0 (F_M_begin s14) fun s15 =>
  some (.inl (some (.int 0)), s15)) fun k6 =>
 gd_lp (fun _ _ => none) (B_M_load_7 k5 k6) gd_N 0 s1
set_option maxRecDepth 20000 in
theorem X_M_load (σ : gS) (r0 : gQ × gS) (h : F_M_load σ = some r0) : gv_K m_M_load [.ref 41] σ (gv_is r0.1 r0.2) := by
  unfold F_M_load at h
  show gv_V m_M_load 1 true 0 [some (.ref 41), none, none] [] σ (gv_is r0.1 r0.2)
  refine gv_aload_n (n := 0) (pc' := 1) (by decide +kernel) rfl rfl ?_
  refine gv_iconst (n := 0) (v := 0) (pc' := 2) (by decide +kernel) (by decide) rfl ?_
  refine gd_puti lp_9_92 (by decide +kernel) rfl rfl rfl rfl (pc' := 5) rfl h (fun s1 h => ?_)
  refine gv_iconst (n := 0) (v := 0) (pc' := 6) (by decide +kernel) (by decide) rfl ?_
  refine gv_istore_n (n := 1) (pc' := 7) (by decide +kernel) (by decide) rfl ?_
  refine gd_jC (fun k5 => ∀ (v9 : Int32) (v10 : Int32) (s8 : gS), k5 v9 v10 s8 = some r0 → gv_V m_M_load 1 false 25 [some (.ref 41), some (.int v9), some (.int v10)] [] s8 (gv_is r0.1 r0.2)) h (fun v9 v10 s8 h => ?_) (fun k5 hk5 h => ?_)
  · refine gv_aload_n (n := 0) (pc' := 26) (by decide +kernel) rfl rfl ?_
    refine gv_iconst (n := 0) (v := 0) (pc' := 27) (by decide +kernel) (by decide) rfl ?_
    refine gd_puti lp_9_95 (by decide +kernel) rfl rfl rfl rfl (pc' := 30) rfl h (fun s11 h => ?_)
    refine gv_aload_n (n := 0) (pc' := 31) (by decide +kernel) rfl rfl ?_
    refine gv_iload_n (n := 1) (pc' := 32) (by decide +kernel) rfl rfl ?_
    refine gd_puti lp_9_16 (by decide +kernel) rfl rfl rfl rfl (pc' := 35) rfl h (fun s12 h => ?_)
    refine gv_iload_n (n := 2) (pc' := 36) (by decide +kernel) rfl rfl ?_
    exact gv_iret .int (by decide +kernel) rfl rfl (by decide) (by decide) (gd_rE h)
  refine gd_jC (fun k6 => ∀ (s13 : gS), k6 s13 = some r0 → gv_V m_M_load 1 false 43 [some (.ref 41), none, none] [] s13 (gv_is r0.1 r0.2)) h (fun s13 h => ?_) (fun k6 hk6 h => ?_)
  · refine gv_aload_n (n := 0) (pc' := 44) (by decide +kernel) rfl rfl ?_
    refine gv_iconst (n := (-1)) (v := (-1)) (pc' := 45) (by decide +kernel) (by decide) rfl ?_
    refine gd_puti lp_9_16 (by decide +kernel) rfl rfl rfl rfl (pc' := 48) rfl h (fun s14 h => ?_)
    refine gv_aload_n (n := 0) (pc' := 49) (by decide +kernel) rfl rfl ?_
    refine gd_cv0 (w' := false) (pc' := 52) (X_M_begin _) h md_M_begin vd_M_begin (Or.inl ml_9_160) (by decide +kernel) (by decide) rfl rfl rfl (Nat.le_of_ble_eq_true rfl) (Nat.le_of_ble_eq_true rfl) (by decide) rfl (fun z => by cases z) (by decide) rfl (fun s15 h => ?_)
    refine gv_iconst (n := 0) (v := 0) (pc' := 53) (by decide +kernel) (by decide) rfl ?_
    exact gv_iret .int (by decide +kernel) rfl rfl (by decide) (by decide) (gd_rE h)
  exact gd_ar (gl_s (gl_s (gl_n gl_z))) (fun z => by cases z) (L_M_load_7 _ _ r0 hk5 hk6 _ _ _ h)
def F_M_faultAt (σ : gS) : gR :=
 gd_s (gs_I σ 41 0 0) fun s1 =>
 some (.inl (some (.int (gI s1 41 6))), s1)
set_option maxRecDepth 20000 in
theorem X_M_faultAt (σ : gS) (r0 : gQ × gS) (h : F_M_faultAt σ = some r0) : gv_K m_M_faultAt [.ref 41] σ (gv_is r0.1 r0.2) := by
  unfold F_M_faultAt at h
  show gv_V m_M_faultAt 1 true 0 [some (.ref 41)] [] σ (gv_is r0.1 r0.2)
  refine gv_aload_n (n := 0) (pc' := 1) (by decide +kernel) rfl rfl ?_
  refine gv_iconst (n := 0) (v := 0) (pc' := 2) (by decide +kernel) (by decide) rfl ?_
  refine gd_puti lp_9_92 (by decide +kernel) rfl rfl rfl rfl (pc' := 5) rfl h (fun s1 h => ?_)
  refine gv_aload_n (n := 0) (pc' := 6) (by decide +kernel) rfl rfl ?_
  refine gv_getj lk_9_16 (by decide +kernel) rfl rfl (pc' := 9) rfl ?_
  exact gv_iret .int (by decide +kernel) rfl rfl (by decide) (by decide) (gd_rE h)
def R_M_isAt (a : Int32) (σ : gS) : gP :=
 if a < 0 then
  some (.inl (some (.int 0)))
 else
  if (gI σ 41 2) ≤ a then
   some (.inl (some (.int 0)))
  else
   some (.inl (some (.int 1)))
set_option maxRecDepth 20000 in
theorem X_M_isAt (a : Int32) (σ : gS) (r0 : gQ) (h : R_M_isAt a σ = some r0) : gv_K m_M_isAt [.ref 41, .int a] σ (gv_is r0 σ) := by
  unfold R_M_isAt at h
  show gv_V m_M_isAt 1 true 0 [some (.ref 41), some (.int a)] [] σ (gv_is r0 σ)
  refine gv_iload_n (n := 1) (pc' := 1) (by decide +kernel) rfl rfl ?_
  refine gv_if_lt (off := 15) (tgt := 16) (pc' := 4) (by decide +kernel) (by decide) rfl (fun c1 => ?_) (fun c1 => ?_)
  · replace h := gd_T c1 h
    refine gv_iconst (n := 0) (v := 0) (pc' := 17) (by decide +kernel) (by decide) rfl ?_
    exact gv_iret .boolean (by decide +kernel) rfl rfl (by decide) (by decide) (gd_pE h)
  · replace h := gd_F c1 h
    refine gv_iload_n (n := 1) (pc' := 5) (by decide +kernel) rfl rfl ?_
    refine gv_aload_n (n := 0) (pc' := 6) (by decide +kernel) rfl rfl ?_
    refine gv_getj lk_9_102 (by decide +kernel) rfl rfl (pc' := 9) rfl ?_
    refine gv_icmp_ge (off := 7) (tgt := 16) (pc' := 12) (by decide +kernel) (by decide) rfl (fun c9 => ?_) (fun c9 => ?_)
    · replace h := gd_T c9 h
      refine gv_iconst (n := 0) (v := 0) (pc' := 17) (by decide +kernel) (by decide) rfl ?_
      exact gv_iret .boolean (by decide +kernel) rfl rfl (by decide) (by decide) (gd_pE h)
    · replace h := gd_F c9 h
      refine gv_iconst (n := 1) (v := 1) (pc' := 13) (by decide +kernel) (by decide) rfl ?_
      refine gv_goto (off := 4) (tgt := 17) (by decide +kernel) (by decide) ?_
      exact gv_iret .boolean (by decide +kernel) rfl rfl (by decide) (by decide) (gd_pE h)
def R_M_result (a : Int32) (σ : gS) : gP :=
 gd_pi (R_M_kind a σ) fun r1 =>
 if 4 ≤ r1 then
  some (.inl (some (.int (-1))))
 else
  gd_g (gd_in a 1040) <|
  if (f_M_d (gA σ 42 a.toNatClampNeg)) ≤ 0 then
   some (.inl (some (.int (-1))))
  else
   gd_g (gd_in a 1040) <|
   some (.inl (some (.int (f_M_d (gA σ 42 a.toNatClampNeg)))))
set_option maxRecDepth 20000 in
theorem X_M_result (a : Int32) (σ : gS) (r0 : gQ) (h : R_M_result a σ = some r0) : gv_K m_M_result [.ref 41, .int a] σ (gv_is r0 σ) := by
  unfold R_M_result at h
  show gv_V m_M_result 1 true 0 [some (.ref 41), some (.int a), none] [] σ (gv_is r0 σ)
  refine gv_aload_n (n := 0) (pc' := 1) (by decide +kernel) rfl rfl ?_
  refine gv_iload_n (n := 1) (pc' := 2) (by decide +kernel) rfl rfl ?_
  refine gd_evi (w' := true) (pc' := 5) (X_M_kind _ _) h md_M_kind vd_M_kind (Or.inl ml_9_130) (by decide +kernel) (by decide) rfl rfl rfl (Nat.le_of_ble_eq_true rfl) (Nat.le_of_ble_eq_true rfl) (by decide) rfl (fun z => ⟨rfl, z⟩) (by decide) rfl (fun r1 h => ?_)
  refine gv_istore_n (n := 2) (pc' := 6) (by decide +kernel) (by decide) rfl ?_
  refine gv_iload_n (n := 2) (pc' := 7) (by decide +kernel) rfl rfl ?_
  refine gv_iconst (n := 4) (v := 4) (pc' := 8) (by decide +kernel) (by decide) rfl ?_
  refine gv_icmp_ge (off := 27) (tgt := 35) (pc' := 11) (by decide +kernel) (by decide) rfl (fun c8 => ?_) (fun c8 => ?_)
  · replace h := gd_T c8 h
    refine gv_iconst (n := (-1)) (v := (-1)) (pc' := 36) (by decide +kernel) (by decide) rfl ?_
    exact gv_iret .int (by decide +kernel) rfl rfl (by decide) (by decide) (gd_pE h)
  · replace h := gd_F c8 h
    refine gv_aload_n (n := 0) (pc' := 12) (by decide +kernel) rfl rfl ?_
    refine gv_getr lk_9_7 (by decide +kernel) rfl rfl (pc' := 15) rfl ?_
    refine gv_iload_n (n := 1) (pc' := 16) (by decide +kernel) rfl rfl ?_
    obtain ⟨g16, h⟩ := gd_gE h
    refine gj_iald _ (pc' := 17) (by decide +kernel) rfl (gd_inv g16) rfl rfl ?_
    refine gv_csi (w' := true) (pc' := 20) (y_M_d _ _) md_M_d sd_M_d (Or.inl ml_9_121) (by decide +kernel) (by decide) rfl (Nat.le_of_ble_eq_true rfl) (Nat.le_of_ble_eq_true rfl) (by decide) rfl (fun z => ⟨rfl, z⟩) (by decide) rfl ?_
    refine gv_if_le (off := 15) (tgt := 35) (pc' := 23) (by decide +kernel) (by decide) rfl (fun c20 => ?_) (fun c20 => ?_)
    · replace h := gd_T c20 h
      refine gv_iconst (n := (-1)) (v := (-1)) (pc' := 36) (by decide +kernel) (by decide) rfl ?_
      exact gv_iret .int (by decide +kernel) rfl rfl (by decide) (by decide) (gd_pE h)
    · replace h := gd_F c20 h
      refine gv_aload_n (n := 0) (pc' := 24) (by decide +kernel) rfl rfl ?_
      refine gv_getr lk_9_7 (by decide +kernel) rfl rfl (pc' := 27) rfl ?_
      refine gv_iload_n (n := 1) (pc' := 28) (by decide +kernel) rfl rfl ?_
      obtain ⟨g28, h⟩ := gd_gE h
      refine gj_iald _ (pc' := 29) (by decide +kernel) rfl (gd_inv g28) rfl rfl ?_
      refine gv_csi (w' := true) (pc' := 32) (y_M_d _ _) md_M_d sd_M_d (Or.inl ml_9_121) (by decide +kernel) (by decide) rfl (Nat.le_of_ble_eq_true rfl) (Nat.le_of_ble_eq_true rfl) (by decide) rfl (fun z => ⟨rfl, z⟩) (by decide) rfl ?_
      refine gv_goto (off := 4) (tgt := 36) (by decide +kernel) (by decide) ?_
      exact gv_iret .int (by decide +kernel) rfl rfl (by decide) (by decide) (gd_pE h)
def f_M_a (a : Int32) : Int32 :=
 (a >>> ((15 : Int32) &&& 31)) &&& (31 : Int32)
set_option maxRecDepth 20000 in
theorem y_M_a (a : Int32) (σ : gS) : gv_K m_M_a [.int a] σ (gv_is (.inl (some (.int (f_M_a a)))) σ) := by
  generalize h : f_M_a a = r0
  unfold f_M_a at h
  show gv_V m_M_a 1 true 0 [some (.int a)] [] σ (gv_is (.inl (some (.int r0))) σ)
  refine gv_iload_n (n := 0) (pc' := 1) (by decide +kernel) rfl rfl ?_
  refine gv_bipush (n := 15) (v := 15) (pc' := 3) (by decide +kernel) (by decide) rfl ?_
  refine gv_ishr (pc' := 4) (by decide +kernel) rfl ?_
  refine gv_bipush (n := 31) (v := 31) (pc' := 6) (by decide +kernel) (by decide) rfl ?_
  refine gv_iand (pc' := 7) (by decide +kernel) rfl ?_
  exact gv_iret .int (by decide +kernel) rfl rfl (by decide) (by decide) (gd_vE h)
def R_M_first (a : Int32) (σ : gS) : gP :=
 gd_pi (R_M_kind a σ) fun r1 =>
 if 6 ≤ r1 then
  some (.inl (some (.int (-1))))
 else
  if r1 = 2 then
   some (.inl (some (.int (-1))))
  else
   gd_g (gd_in a 1040) <|
   some (.inl (some (.int (f_M_a (gA σ 42 a.toNatClampNeg)))))
set_option maxRecDepth 20000 in
theorem X_M_first (a : Int32) (σ : gS) (r0 : gQ) (h : R_M_first a σ = some r0) : gv_K m_M_first [.ref 41, .int a] σ (gv_is r0 σ) := by
  unfold R_M_first at h
  show gv_V m_M_first 1 true 0 [some (.ref 41), some (.int a), none] [] σ (gv_is r0 σ)
  refine gv_aload_n (n := 0) (pc' := 1) (by decide +kernel) rfl rfl ?_
  refine gv_iload_n (n := 1) (pc' := 2) (by decide +kernel) rfl rfl ?_
  refine gd_evi (w' := true) (pc' := 5) (X_M_kind _ _) h md_M_kind vd_M_kind (Or.inl ml_9_130) (by decide +kernel) (by decide) rfl rfl rfl (Nat.le_of_ble_eq_true rfl) (Nat.le_of_ble_eq_true rfl) (by decide) rfl (fun z => ⟨rfl, z⟩) (by decide) rfl (fun r1 h => ?_)
  refine gv_istore_n (n := 2) (pc' := 6) (by decide +kernel) (by decide) rfl ?_
  refine gv_iload_n (n := 2) (pc' := 7) (by decide +kernel) rfl rfl ?_
  refine gv_bipush (n := 6) (v := 6) (pc' := 9) (by decide +kernel) (by decide) rfl ?_
  refine gv_icmp_ge (off := 20) (tgt := 29) (pc' := 12) (by decide +kernel) (by decide) rfl (fun c9 => ?_) (fun c9 => ?_)
  · replace h := gd_T c9 h
    refine gv_iconst (n := (-1)) (v := (-1)) (pc' := 30) (by decide +kernel) (by decide) rfl ?_
    exact gv_iret .int (by decide +kernel) rfl rfl (by decide) (by decide) (gd_pE h)
  · replace h := gd_F c9 h
    refine gv_iload_n (n := 2) (pc' := 13) (by decide +kernel) rfl rfl ?_
    refine gv_iconst (n := 2) (v := 2) (pc' := 14) (by decide +kernel) (by decide) rfl ?_
    refine gv_icmp_eq (off := 15) (tgt := 29) (pc' := 17) (by decide +kernel) (by decide) rfl (fun c14 => ?_) (fun c14 => ?_)
    · replace h := gd_T c14 h
      refine gv_iconst (n := (-1)) (v := (-1)) (pc' := 30) (by decide +kernel) (by decide) rfl ?_
      exact gv_iret .int (by decide +kernel) rfl rfl (by decide) (by decide) (gd_pE h)
    · replace h := gd_F c14 h
      refine gv_aload_n (n := 0) (pc' := 18) (by decide +kernel) rfl rfl ?_
      refine gv_getr lk_9_7 (by decide +kernel) rfl rfl (pc' := 21) rfl ?_
      refine gv_iload_n (n := 1) (pc' := 22) (by decide +kernel) rfl rfl ?_
      obtain ⟨g22, h⟩ := gd_gE h
      refine gj_iald _ (pc' := 23) (by decide +kernel) rfl (gd_inv g22) rfl rfl ?_
      refine gv_csi (w' := true) (pc' := 26) (y_M_a _ _) md_M_a sd_M_a (Or.inl ml_9_136) (by decide +kernel) (by decide) rfl (Nat.le_of_ble_eq_true rfl) (Nat.le_of_ble_eq_true rfl) (by decide) rfl (fun z => ⟨rfl, z⟩) (by decide) rfl ?_
      refine gv_goto (off := 4) (tgt := 30) (by decide +kernel) (by decide) ?_
      exact gv_iret .int (by decide +kernel) rfl rfl (by decide) (by decide) (gd_pE h)
def f_M_b (a : Int32) : Int32 :=
 (a >>> ((20 : Int32) &&& 31)) &&& (31 : Int32)
set_option maxRecDepth 20000 in
theorem y_M_b (a : Int32) (σ : gS) : gv_K m_M_b [.int a] σ (gv_is (.inl (some (.int (f_M_b a)))) σ) := by
  generalize h : f_M_b a = r0
  unfold f_M_b at h
  show gv_V m_M_b 1 true 0 [some (.int a)] [] σ (gv_is (.inl (some (.int r0))) σ)
  refine gv_iload_n (n := 0) (pc' := 1) (by decide +kernel) rfl rfl ?_
  refine gv_bipush (n := 20) (v := 20) (pc' := 3) (by decide +kernel) (by decide) rfl ?_
  refine gv_ishr (pc' := 4) (by decide +kernel) rfl ?_
  refine gv_bipush (n := 31) (v := 31) (pc' := 6) (by decide +kernel) (by decide) rfl ?_
  refine gv_iand (pc' := 7) (by decide +kernel) rfl ?_
  exact gv_iret .int (by decide +kernel) rfl rfl (by decide) (by decide) (gd_vE h)
def R_M_second (a : Int32) (σ : gS) : gP :=
 gd_pi (R_M_kind a σ) fun r1 =>
 gd_j (α := gP) (
  gd_g (gd_in a 1040) <|
  some (.inl (some (.int (f_M_b (gA σ 42 a.toNatClampNeg)))))) fun J2 =>
 if r1 = 0 then
  J2
 else
  if r1 = 4 then
   J2
  else
   if r1 = 5 then
    J2
   else
    some (.inl (some (.int (-1))))
set_option maxRecDepth 20000 in
theorem X_M_second (a : Int32) (σ : gS) (r0 : gQ) (h : R_M_second a σ = some r0) : gv_K m_M_second [.ref 41, .int a] σ (gv_is r0 σ) := by
  unfold R_M_second at h
  show gv_V m_M_second 1 true 0 [some (.ref 41), some (.int a), none] [] σ (gv_is r0 σ)
  refine gv_aload_n (n := 0) (pc' := 1) (by decide +kernel) rfl rfl ?_
  refine gv_iload_n (n := 1) (pc' := 2) (by decide +kernel) rfl rfl ?_
  refine gd_evi (w' := true) (pc' := 5) (X_M_kind _ _) h md_M_kind vd_M_kind (Or.inl ml_9_130) (by decide +kernel) (by decide) rfl rfl rfl (Nat.le_of_ble_eq_true rfl) (Nat.le_of_ble_eq_true rfl) (by decide) rfl (fun z => ⟨rfl, z⟩) (by decide) rfl (fun r1 h => ?_)
  refine gv_istore_n (n := 2) (pc' := 6) (by decide +kernel) (by decide) rfl ?_
  refine gv_iload_n (n := 2) (pc' := 7) (by decide +kernel) rfl rfl ?_
  refine gd_jC (fun J2 => J2 = some r0 → gv_V m_M_second 1 true 20 [some (.ref 41), some (.int a), none] [] σ (gv_is r0 σ)) h (fun  h => ?_) (fun J2 hJ2 h => ?_)
  · refine gv_aload_n (n := 0) (pc' := 21) (by decide +kernel) rfl rfl ?_
    refine gv_getr lk_9_7 (by decide +kernel) rfl rfl (pc' := 24) rfl ?_
    refine gv_iload_n (n := 1) (pc' := 25) (by decide +kernel) rfl rfl ?_
    obtain ⟨g25, h⟩ := gd_gE h
    refine gj_iald _ (pc' := 26) (by decide +kernel) rfl (gd_inv g25) rfl rfl ?_
    refine gv_csi (w' := true) (pc' := 29) (y_M_b _ _) md_M_b sd_M_b (Or.inl ml_9_139) (by decide +kernel) (by decide) rfl (Nat.le_of_ble_eq_true rfl) (Nat.le_of_ble_eq_true rfl) (by decide) rfl (fun z => ⟨rfl, z⟩) (by decide) rfl ?_
    refine gv_goto (off := 4) (tgt := 33) (by decide +kernel) (by decide) ?_
    exact gv_iret .int (by decide +kernel) rfl rfl (by decide) (by decide) (gd_pE h)
  · refine gv_if_eq (off := 13) (tgt := 20) (pc' := 10) (by decide +kernel) (by decide) rfl (fun c7 => ?_) (fun c7 => ?_)
    · replace h := gd_T c7 h
      exact gd_ar (gl_s (gl_s (gl_n gl_z))) (fun _ => rfl) (hJ2  h)
    · replace h := gd_F c7 h
      refine gv_iload_n (n := 2) (pc' := 11) (by decide +kernel) rfl rfl ?_
      refine gv_iconst (n := 4) (v := 4) (pc' := 12) (by decide +kernel) (by decide) rfl ?_
      refine gv_icmp_eq (off := 8) (tgt := 20) (pc' := 15) (by decide +kernel) (by decide) rfl (fun c12 => ?_) (fun c12 => ?_)
      · replace h := gd_T c12 h
        exact gd_ar (gl_s (gl_s (gl_n gl_z))) (fun _ => rfl) (hJ2  h)
      · replace h := gd_F c12 h
        refine gv_iload_n (n := 2) (pc' := 16) (by decide +kernel) rfl rfl ?_
        refine gv_iconst (n := 5) (v := 5) (pc' := 17) (by decide +kernel) (by decide) rfl ?_
        refine gv_icmp_ne (off := 15) (tgt := 32) (pc' := 20) (by decide +kernel) (by decide) rfl (fun c17 => ?_) (fun c17 => ?_)
        · replace h := gd_F c17 h
          refine gv_iconst (n := (-1)) (v := (-1)) (pc' := 33) (by decide +kernel) (by decide) rfl ?_
          exact gv_iret .int (by decide +kernel) rfl rfl (by decide) (by decide) (gd_pE h)
        · replace h := gd_T c17 h
          exact gd_ar (gl_s (gl_s (gl_n gl_z))) (fun _ => rfl) (hJ2  h)
def R_M_number (a : Int32) (σ : gS) : gP :=
 gd_g (gd_in a 1040) <|
 gd_pi (R_M_kind a σ) fun r1 =>
 if r1 = 1 then
  gd_j (α := gP) (
   some (.inl (some (.int (f_M_b (gA σ 42 a.toNatClampNeg)))))) fun J2 =>
  if (f_M_f (gA σ 42 a.toNatClampNeg)) = 1 then
   J2
  else
   if (f_M_f (gA σ 42 a.toNatClampNeg)) = 5 then
    J2
   else
    some (.inl (some (.int ((gA σ 42 a.toNatClampNeg) >>> ((20 : Int32) &&& 31)))))
 else if r1 = 2 then
  some (.inl (some (.int ((gA σ 42 a.toNatClampNeg) &&& (-4096 : Int32)))))
 else if r1 = 3 then
  some (.inl (some (.int ((gA σ 42 a.toNatClampNeg) >>> ((20 : Int32) &&& 31)))))
 else if r1 = 4 then
  some (.inl (some (.int ((((gA σ 42 a.toNatClampNeg) >>> ((25 : Int32) &&& 31)) <<< ((5 : Int32) &&& 31)) ||| (f_M_d (gA σ 42 a.toNatClampNeg))))))
 else 
  some (.inl (some (.int 0)))
set_option maxRecDepth 20000 in
theorem X_M_number (a : Int32) (σ : gS) (r0 : gQ) (h : R_M_number a σ = some r0) : gv_K m_M_number [.ref 41, .int a] σ (gv_is r0 σ) := by
  unfold R_M_number at h
  show gv_V m_M_number 1 true 0 [some (.ref 41), some (.int a), none] [] σ (gv_is r0 σ)
  refine gv_aload_n (n := 0) (pc' := 1) (by decide +kernel) rfl rfl ?_
  refine gv_getr lk_9_7 (by decide +kernel) rfl rfl (pc' := 4) rfl ?_
  refine gv_iload_n (n := 1) (pc' := 5) (by decide +kernel) rfl rfl ?_
  obtain ⟨g5, h⟩ := gd_gE h
  refine gj_iald _ (pc' := 6) (by decide +kernel) rfl (gd_inv g5) rfl rfl ?_
  refine gv_istore_n (n := 2) (pc' := 7) (by decide +kernel) (by decide) rfl ?_
  refine gv_aload_n (n := 0) (pc' := 8) (by decide +kernel) rfl rfl ?_
  refine gv_iload_n (n := 1) (pc' := 9) (by decide +kernel) rfl rfl ?_
  refine gd_evi (w' := true) (pc' := 12) (X_M_kind _ _) h md_M_kind vd_M_kind (Or.inl ml_9_130) (by decide +kernel) (by decide) rfl rfl rfl (Nat.le_of_ble_eq_true rfl) (Nat.le_of_ble_eq_true rfl) (by decide) rfl (fun z => ⟨rfl, z⟩) (by decide) rfl (fun r1 h => ?_)
  by_cases q12_0 : r1 = 1
  · replace h := gd_T q12_0 h
    refine gd_tbT (dflt := 83) (lo := 1) (hi := 4) (offs := #[32, 60, 66, 71]) (len := 32) (off := 32) (tgt := 44) q12_0 (by decide +kernel) (by decide) (by decide) rfl (by decide) ?_
    refine gv_iload_n (n := 2) (pc' := 45) (by decide +kernel) rfl rfl ?_
    refine gv_csi (w' := true) (pc' := 48) (y_M_f _ _) md_M_f sd_M_f (Or.inl ml_9_114) (by decide +kernel) (by decide) rfl (Nat.le_of_ble_eq_true rfl) (Nat.le_of_ble_eq_true rfl) (by decide) rfl (fun z => ⟨rfl, z⟩) (by decide) rfl ?_
    refine gv_iconst (n := 1) (v := 1) (pc' := 49) (by decide +kernel) (by decide) rfl ?_
    refine gd_jC (fun J2 => J2 = some r0 → gv_V m_M_number 1 true 60 [none, none, some (.int (gA σ 42 a.toNatClampNeg))] [] σ (gv_is r0 σ)) h (fun  h => ?_) (fun J2 hJ2 h => ?_)
    · refine gv_iload_n (n := 2) (pc' := 61) (by decide +kernel) rfl rfl ?_
      refine gv_csi (w' := true) (pc' := 64) (y_M_b _ _) md_M_b sd_M_b (Or.inl ml_9_139) (by decide +kernel) (by decide) rfl (Nat.le_of_ble_eq_true rfl) (Nat.le_of_ble_eq_true rfl) (by decide) rfl (fun z => ⟨rfl, z⟩) (by decide) rfl ?_
      refine gv_goto (off := 7) (tgt := 71) (by decide +kernel) (by decide) ?_
      exact gv_iret .int (by decide +kernel) rfl rfl (by decide) (by decide) (gd_pE h)
    · refine gv_icmp_eq (off := 11) (tgt := 60) (pc' := 52) (by decide +kernel) (by decide) rfl (fun c49 => ?_) (fun c49 => ?_)
      · replace h := gd_T c49 h
        exact gd_ar (gl_n (gl_n (gl_s gl_z))) (fun _ => rfl) (hJ2  h)
      · replace h := gd_F c49 h
        refine gv_iload_n (n := 2) (pc' := 53) (by decide +kernel) rfl rfl ?_
        refine gv_csi (w' := true) (pc' := 56) (y_M_f _ _) md_M_f sd_M_f (Or.inl ml_9_114) (by decide +kernel) (by decide) rfl (Nat.le_of_ble_eq_true rfl) (Nat.le_of_ble_eq_true rfl) (by decide) rfl (fun z => ⟨rfl, z⟩) (by decide) rfl ?_
        refine gv_iconst (n := 5) (v := 5) (pc' := 57) (by decide +kernel) (by decide) rfl ?_
        refine gv_icmp_ne (off := 10) (tgt := 67) (pc' := 60) (by decide +kernel) (by decide) rfl (fun c57 => ?_) (fun c57 => ?_)
        · replace h := gd_F c57 h
          refine gv_iload_n (n := 2) (pc' := 68) (by decide +kernel) rfl rfl ?_
          refine gv_bipush (n := 20) (v := 20) (pc' := 70) (by decide +kernel) (by decide) rfl ?_
          refine gv_ishr (pc' := 71) (by decide +kernel) rfl ?_
          exact gv_iret .int (by decide +kernel) rfl rfl (by decide) (by decide) (gd_pE h)
        · replace h := gd_T c57 h
          exact gd_ar (gl_n (gl_n (gl_s gl_z))) (fun _ => rfl) (hJ2  h)
  replace h := gd_F q12_0 h
  by_cases q12_1 : r1 = 2
  · replace h := gd_T q12_1 h
    refine gd_tbT (dflt := 83) (lo := 1) (hi := 4) (offs := #[32, 60, 66, 71]) (len := 32) (off := 60) (tgt := 72) q12_1 (by decide +kernel) (by decide) (by decide) rfl (by decide) ?_
    refine gv_iload_n (n := 2) (pc' := 73) (by decide +kernel) rfl rfl ?_
    refine gv_sipush (n := (-4096)) (v := (-4096)) (pc' := 76) (by decide +kernel) (by decide) rfl ?_
    refine gv_iand (pc' := 77) (by decide +kernel) rfl ?_
    exact gv_iret .int (by decide +kernel) rfl rfl (by decide) (by decide) (gd_pE h)
  replace h := gd_F q12_1 h
  by_cases q12_2 : r1 = 3
  · replace h := gd_T q12_2 h
    refine gd_tbT (dflt := 83) (lo := 1) (hi := 4) (offs := #[32, 60, 66, 71]) (len := 32) (off := 66) (tgt := 78) q12_2 (by decide +kernel) (by decide) (by decide) rfl (by decide) ?_
    refine gv_iload_n (n := 2) (pc' := 79) (by decide +kernel) rfl rfl ?_
    refine gv_bipush (n := 20) (v := 20) (pc' := 81) (by decide +kernel) (by decide) rfl ?_
    refine gv_ishr (pc' := 82) (by decide +kernel) rfl ?_
    exact gv_iret .int (by decide +kernel) rfl rfl (by decide) (by decide) (gd_pE h)
  replace h := gd_F q12_2 h
  by_cases q12_3 : r1 = 4
  · replace h := gd_T q12_3 h
    refine gd_tbT (dflt := 83) (lo := 1) (hi := 4) (offs := #[32, 60, 66, 71]) (len := 32) (off := 71) (tgt := 83) q12_3 (by decide +kernel) (by decide) (by decide) rfl (by decide) ?_
    refine gv_iload_n (n := 2) (pc' := 84) (by decide +kernel) rfl rfl ?_
    refine gv_bipush (n := 25) (v := 25) (pc' := 86) (by decide +kernel) (by decide) rfl ?_
    refine gv_ishr (pc' := 87) (by decide +kernel) rfl ?_
    refine gv_iconst (n := 5) (v := 5) (pc' := 88) (by decide +kernel) (by decide) rfl ?_
    refine gv_ishl (pc' := 89) (by decide +kernel) rfl ?_
    refine gv_iload_n (n := 2) (pc' := 90) (by decide +kernel) rfl rfl ?_
    refine gv_csi (w' := true) (pc' := 93) (y_M_d _ _) md_M_d sd_M_d (Or.inl ml_9_121) (by decide +kernel) (by decide) rfl (Nat.le_of_ble_eq_true rfl) (Nat.le_of_ble_eq_true rfl) (by decide) rfl (fun z => ⟨rfl, z⟩) (by decide) rfl ?_
    refine gv_ior (pc' := 94) (by decide +kernel) rfl ?_
    exact gv_iret .int (by decide +kernel) rfl rfl (by decide) (by decide) (gd_pE h)
  replace h := gd_F q12_3 h
  refine gv_tableOut (dflt := 83) (lo := 1) (hi := 4) (offs := #[32, 60, 66, 71]) (len := 32) (tgt := 95) (by decide +kernel) (gd_tbs (a := 4) (gd_tbs (a := 3) (gd_tbs (a := 2) (gd_tbs (a := 1) (gd_tb0 (lo := 1)) q12_0 (by decide) (by decide)) q12_1 (by decide) (by decide)) q12_2 (by decide) (by decide)) q12_3 (by decide) (by decide)) (by decide) ?_
  refine gv_iconst (n := 0) (v := 0) (pc' := 96) (by decide +kernel) (by decide) rfl ?_
  exact gv_iret .int (by decide +kernel) rfl rfl (by decide) (by decide) (gd_pE h)
def F_M_decoded (a : Int32) (b : Int32) (σ : gS) : gR :=
 gd_j (α := Int32 → gR) (fun (v3 : Int32) =>
  gd_s (gs_I σ 41 0 v3) fun s4 =>
  if (gI s4 41 0) ≤ 0 then
   if b = 0 then
    gd_qi (R_M_kind a s4) s4 fun r5 =>
    some (.inl (some (.int r5)), s4)
   else if b = 1 then
    gd_qi (R_M_result a s4) s4 fun r6 =>
    some (.inl (some (.int r6)), s4)
   else if b = 2 then
    gd_qi (R_M_first a s4) s4 fun r7 =>
    some (.inl (some (.int r7)), s4)
   else if b = 3 then
    gd_qi (R_M_second a s4) s4 fun r8 =>
    some (.inl (some (.int r8)), s4)
   else if b = 4 then
    gd_qi (R_M_number a s4) s4 fun r9 =>
    some (.inl (some (.int r9)), s4)
   else 
    gd_qi (R_M_kind a s4) s4 fun r10 =>
    gd_j (α := gR) (
     gd_qi (R_M_target a s4) s4 fun r13 =>
     some (.inl (some (.int r13)), s4)) fun J11 =>
    if r10 = 5 then
     J11
    else
     gd_qi (R_M_kind a s4) s4 fun r12 =>
     if r12 = 6 then
      J11
     else
      some (.inl (some (.int (-1))), s4)
  else
   some (.inl (some (.int 0)), s4)) fun J1 =>
 if (gI σ 41 5) = 0 then
  J1 1
 else
  gd_qi (R_M_isAt a σ) σ fun r2 =>
  if r2 = 0 then
   J1 2
  else
   if b < 0 then
    J1 3
   else
    if b ≤ 5 then
     J1 0
    else
     J1 3
set_option maxRecDepth 20000 in
theorem X_M_decoded (a : Int32) (b : Int32) (σ : gS) (r0 : gQ × gS) (h : F_M_decoded a b σ = some r0) : gv_K m_M_decoded [.ref 41, .int a, .int b] σ (gv_is r0.1 r0.2) := by
  unfold F_M_decoded at h
  show gv_V m_M_decoded 1 true 0 [some (.ref 41), some (.int a), some (.int b)] [] σ (gv_is r0.1 r0.2)
  refine gv_aload_n (n := 0) (pc' := 1) (by decide +kernel) rfl rfl ?_
  refine gv_aload_n (n := 0) (pc' := 2) (by decide +kernel) rfl rfl ?_
  refine gv_getj lk_9_95 (by decide +kernel) rfl rfl (pc' := 5) rfl ?_
  refine gd_jC (fun J1 => ∀ (v3 : Int32), J1 v3 = some r0 → gv_V m_M_decoded 1 true 38 [some (.ref 41), some (.int a), some (.int b)] [.int v3, .ref 41] σ (gv_is r0.1 r0.2)) h (fun v3 h => ?_) (fun J1 hJ1 h => ?_)
  · refine gd_puti lp_9_92 (by decide +kernel) rfl rfl rfl rfl (pc' := 41) rfl h (fun s4 h => ?_)
    refine gv_aload_n (n := 0) (pc' := 42) (by decide +kernel) rfl rfl ?_
    refine gv_getj lk_9_92 (by decide +kernel) rfl rfl (pc' := 45) rfl ?_
    refine gv_if_le (off := 5) (tgt := 50) (pc' := 48) (by decide +kernel) (by decide) rfl (fun c45 => ?_) (fun c45 => ?_)
    · replace h := gd_T c45 h
      refine gv_iload_n (n := 2) (pc' := 51) (by decide +kernel) rfl rfl ?_
      by_cases q51_0 : b = 0
      · replace h := gd_T q51_0 h
        refine gd_tbT (dflt := 63) (lo := 0) (hi := 4) (offs := #[33, 39, 45, 51, 57]) (len := 33) (off := 33) (tgt := 84) q51_0 (by decide +kernel) (by decide) (by decide) rfl (by decide) ?_
        refine gv_aload_n (n := 0) (pc' := 85) (by decide +kernel) rfl rfl ?_
        refine gv_iload_n (n := 1) (pc' := 86) (by decide +kernel) rfl rfl ?_
        refine gd_dvi (w' := false) (pc' := 89) (X_M_kind _ _) h md_M_kind vd_M_kind (Or.inl ml_9_130) (by decide +kernel) (by decide) rfl rfl rfl (Nat.le_of_ble_eq_true rfl) (Nat.le_of_ble_eq_true rfl) (by decide) rfl (fun z => by cases z) (by decide) rfl (fun r5 h => ?_)
        exact gv_iret .int (by decide +kernel) rfl rfl (by decide) (by decide) (gd_rE h)
      replace h := gd_F q51_0 h
      by_cases q51_1 : b = 1
      · replace h := gd_T q51_1 h
        refine gd_tbT (dflt := 63) (lo := 0) (hi := 4) (offs := #[33, 39, 45, 51, 57]) (len := 33) (off := 39) (tgt := 90) q51_1 (by decide +kernel) (by decide) (by decide) rfl (by decide) ?_
        refine gv_aload_n (n := 0) (pc' := 91) (by decide +kernel) rfl rfl ?_
        refine gv_iload_n (n := 1) (pc' := 92) (by decide +kernel) rfl rfl ?_
        refine gd_dvi (w' := false) (pc' := 95) (X_M_result _ _) h md_M_result vd_M_result (Or.inl ml_9_167) (by decide +kernel) (by decide) rfl rfl rfl (Nat.le_of_ble_eq_true rfl) (Nat.le_of_ble_eq_true rfl) (by decide) rfl (fun z => by cases z) (by decide) rfl (fun r6 h => ?_)
        exact gv_iret .int (by decide +kernel) rfl rfl (by decide) (by decide) (gd_rE h)
      replace h := gd_F q51_1 h
      by_cases q51_2 : b = 2
      · replace h := gd_T q51_2 h
        refine gd_tbT (dflt := 63) (lo := 0) (hi := 4) (offs := #[33, 39, 45, 51, 57]) (len := 33) (off := 45) (tgt := 96) q51_2 (by decide +kernel) (by decide) (by decide) rfl (by decide) ?_
        refine gv_aload_n (n := 0) (pc' := 97) (by decide +kernel) rfl rfl ?_
        refine gv_iload_n (n := 1) (pc' := 98) (by decide +kernel) rfl rfl ?_
        refine gd_dvi (w' := false) (pc' := 101) (X_M_first _ _) h md_M_first vd_M_first (Or.inl ml_9_170) (by decide +kernel) (by decide) rfl rfl rfl (Nat.le_of_ble_eq_true rfl) (Nat.le_of_ble_eq_true rfl) (by decide) rfl (fun z => by cases z) (by decide) rfl (fun r7 h => ?_)
        exact gv_iret .int (by decide +kernel) rfl rfl (by decide) (by decide) (gd_rE h)
      replace h := gd_F q51_2 h
      by_cases q51_3 : b = 3
      · replace h := gd_T q51_3 h
        refine gd_tbT (dflt := 63) (lo := 0) (hi := 4) (offs := #[33, 39, 45, 51, 57]) (len := 33) (off := 51) (tgt := 102) q51_3 (by decide +kernel) (by decide) (by decide) rfl (by decide) ?_
        refine gv_aload_n (n := 0) (pc' := 103) (by decide +kernel) rfl rfl ?_
        refine gv_iload_n (n := 1) (pc' := 104) (by decide +kernel) rfl rfl ?_
        refine gd_dvi (w' := false) (pc' := 107) (X_M_second _ _) h md_M_second vd_M_second (Or.inl ml_9_173) (by decide +kernel) (by decide) rfl rfl rfl (Nat.le_of_ble_eq_true rfl) (Nat.le_of_ble_eq_true rfl) (by decide) rfl (fun z => by cases z) (by decide) rfl (fun r8 h => ?_)
        exact gv_iret .int (by decide +kernel) rfl rfl (by decide) (by decide) (gd_rE h)
      replace h := gd_F q51_3 h
      by_cases q51_4 : b = 4
      · replace h := gd_T q51_4 h
        refine gd_tbT (dflt := 63) (lo := 0) (hi := 4) (offs := #[33, 39, 45, 51, 57]) (len := 33) (off := 57) (tgt := 108) q51_4 (by decide +kernel) (by decide) (by decide) rfl (by decide) ?_
        refine gv_aload_n (n := 0) (pc' := 109) (by decide +kernel) rfl rfl ?_
        refine gv_iload_n (n := 1) (pc' := 110) (by decide +kernel) rfl rfl ?_
        refine gd_dvi (w' := false) (pc' := 113) (X_M_number _ _) h md_M_number vd_M_number (Or.inl ml_9_176) (by decide +kernel) (by decide) rfl rfl rfl (Nat.le_of_ble_eq_true rfl) (Nat.le_of_ble_eq_true rfl) (by decide) rfl (fun z => by cases z) (by decide) rfl (fun r9 h => ?_)
        exact gv_iret .int (by decide +kernel) rfl rfl (by decide) (by decide) (gd_rE h)
      replace h := gd_F q51_4 h
      refine gv_tableOut (dflt := 63) (lo := 0) (hi := 4) (offs := #[33, 39, 45, 51, 57]) (len := 33) (tgt := 114) (by decide +kernel) (gd_tbs (a := 4) (gd_tbs (a := 3) (gd_tbs (a := 2) (gd_tbs (a := 1) (gd_tbs (a := 0) (gd_tb0 (lo := 0)) q51_0 (by decide) (by decide)) q51_1 (by decide) (by decide)) q51_2 (by decide) (by decide)) q51_3 (by decide) (by decide)) q51_4 (by decide) (by decide)) (by decide) ?_
      refine gv_aload_n (n := 0) (pc' := 115) (by decide +kernel) rfl rfl ?_
      refine gv_iload_n (n := 1) (pc' := 116) (by decide +kernel) rfl rfl ?_
      refine gd_dvi (w' := false) (pc' := 119) (X_M_kind _ _) h md_M_kind vd_M_kind (Or.inl ml_9_130) (by decide +kernel) (by decide) rfl rfl rfl (Nat.le_of_ble_eq_true rfl) (Nat.le_of_ble_eq_true rfl) (by decide) rfl (fun z => by cases z) (by decide) rfl (fun r10 h => ?_)
      refine gv_iconst (n := 5) (v := 5) (pc' := 120) (by decide +kernel) (by decide) rfl ?_
      refine gd_jC (fun J11 => J11 = some r0 → gv_V m_M_decoded 1 false 133 [some (.ref 41), some (.int a), none] [] s4 (gv_is r0.1 r0.2)) h (fun  h => ?_) (fun J11 hJ11 h => ?_)
      · refine gv_aload_n (n := 0) (pc' := 134) (by decide +kernel) rfl rfl ?_
        refine gv_iload_n (n := 1) (pc' := 135) (by decide +kernel) rfl rfl ?_
        refine gd_dvi (w' := false) (pc' := 138) (X_M_target _ _) h md_M_target vd_M_target (Or.inl ml_9_133) (by decide +kernel) (by decide) rfl rfl rfl (Nat.le_of_ble_eq_true rfl) (Nat.le_of_ble_eq_true rfl) (by decide) rfl (fun z => by cases z) (by decide) rfl (fun r13 h => ?_)
        refine gv_goto (off := 4) (tgt := 142) (by decide +kernel) (by decide) ?_
        exact gv_iret .int (by decide +kernel) rfl rfl (by decide) (by decide) (gd_rE h)
      · refine gv_icmp_eq (off := 13) (tgt := 133) (pc' := 123) (by decide +kernel) (by decide) rfl (fun c120 => ?_) (fun c120 => ?_)
        · replace h := gd_T c120 h
          exact gd_ar (gl_s (gl_s (gl_n gl_z))) (fun z => by cases z) (hJ11  h)
        · replace h := gd_F c120 h
          refine gv_aload_n (n := 0) (pc' := 124) (by decide +kernel) rfl rfl ?_
          refine gv_iload_n (n := 1) (pc' := 125) (by decide +kernel) rfl rfl ?_
          refine gd_dvi (w' := false) (pc' := 128) (X_M_kind _ _) h md_M_kind vd_M_kind (Or.inl ml_9_130) (by decide +kernel) (by decide) rfl rfl rfl (Nat.le_of_ble_eq_true rfl) (Nat.le_of_ble_eq_true rfl) (by decide) rfl (fun z => by cases z) (by decide) rfl (fun r12 h => ?_)
          refine gv_bipush (n := 6) (v := 6) (pc' := 130) (by decide +kernel) (by decide) rfl ?_
          refine gv_icmp_ne (off := 11) (tgt := 141) (pc' := 133) (by decide +kernel) (by decide) rfl (fun c130 => ?_) (fun c130 => ?_)
          · replace h := gd_F c130 h
            refine gv_iconst (n := (-1)) (v := (-1)) (pc' := 142) (by decide +kernel) (by decide) rfl ?_
            exact gv_iret .int (by decide +kernel) rfl rfl (by decide) (by decide) (gd_rE h)
          · replace h := gd_T c130 h
            exact gd_ar (gl_s (gl_s (gl_n gl_z))) (fun z => by cases z) (hJ11  h)
    · replace h := gd_F c45 h
      refine gv_iconst (n := 0) (v := 0) (pc' := 49) (by decide +kernel) (by decide) rfl ?_
      exact gv_iret .int (by decide +kernel) rfl rfl (by decide) (by decide) (gd_rE h)
  · refine gv_if_ne (off := 7) (tgt := 12) (pc' := 8) (by decide +kernel) (by decide) rfl (fun c5 => ?_) (fun c5 => ?_)
    · replace h := gd_F c5 h
      refine gv_aload_n (n := 0) (pc' := 13) (by decide +kernel) rfl rfl ?_
      refine gv_iload_n (n := 1) (pc' := 14) (by decide +kernel) rfl rfl ?_
      refine gd_dvi (w' := true) (pc' := 17) (X_M_isAt _ _) h md_M_isAt vd_M_isAt (Or.inl ml_9_163) (by decide +kernel) (by decide) rfl rfl rfl (Nat.le_of_ble_eq_true rfl) (Nat.le_of_ble_eq_true rfl) (by decide) rfl (fun z => ⟨rfl, z⟩) (by decide) rfl (fun r2 h => ?_)
      refine gv_if_ne (off := 7) (tgt := 24) (pc' := 20) (by decide +kernel) (by decide) rfl (fun c17 => ?_) (fun c17 => ?_)
      · replace h := gd_F c17 h
        refine gv_iload_n (n := 2) (pc' := 25) (by decide +kernel) rfl rfl ?_
        refine gv_if_lt (off := 8) (tgt := 33) (pc' := 28) (by decide +kernel) (by decide) rfl (fun c25 => ?_) (fun c25 => ?_)
        · replace h := gd_T c25 h
          refine gv_iconst (n := 3) (v := 3) (pc' := 34) (by decide +kernel) (by decide) rfl ?_
          refine gv_goto (off := 4) (tgt := 38) (by decide +kernel) (by decide) ?_
          exact gd_ar (gl_s (gl_s (gl_s gl_z))) (fun _ => rfl) (hJ1 _ h)
        · replace h := gd_F c25 h
          refine gv_iload_n (n := 2) (pc' := 29) (by decide +kernel) rfl rfl ?_
          refine gv_iconst (n := 5) (v := 5) (pc' := 30) (by decide +kernel) (by decide) rfl ?_
          refine gv_icmp_le (off := 7) (tgt := 37) (pc' := 33) (by decide +kernel) (by decide) rfl (fun c30 => ?_) (fun c30 => ?_)
          · replace h := gd_T c30 h
            refine gv_iconst (n := 0) (v := 0) (pc' := 38) (by decide +kernel) (by decide) rfl ?_
            exact gd_ar (gl_s (gl_s (gl_s gl_z))) (fun _ => rfl) (hJ1 _ h)
          · replace h := gd_F c30 h
            refine gv_iconst (n := 3) (v := 3) (pc' := 34) (by decide +kernel) (by decide) rfl ?_
            refine gv_goto (off := 4) (tgt := 38) (by decide +kernel) (by decide) ?_
            exact gd_ar (gl_s (gl_s (gl_s gl_z))) (fun _ => rfl) (hJ1 _ h)
      · replace h := gd_T c17 h
        refine gv_iconst (n := 2) (v := 2) (pc' := 21) (by decide +kernel) (by decide) rfl ?_
        refine gv_goto (off := 17) (tgt := 38) (by decide +kernel) (by decide) ?_
        exact gd_ar (gl_s (gl_s (gl_s gl_z))) (fun _ => rfl) (hJ1 _ h)
    · replace h := gd_T c5 h
      refine gv_iconst (n := 1) (v := 1) (pc' := 9) (by decide +kernel) (by decide) rfl ?_
      refine gv_goto (off := 29) (tgt := 38) (by decide +kernel) (by decide) ?_
      exact gd_ar (gl_s (gl_s (gl_s gl_z))) (fun _ => rfl) (hJ1 _ h)
def F_M_set (a : Int32) (b : Int32) (σ : gS) : gR :=
 gd_t (α := Int32) (if (gI σ 41 5) = 0 then
   1
  else
   if (gI σ 41 18) ≤ 0 then
    if a < 1 then
     2
    else
     if a ≤ 31 then
      0
     else
      2
   else
    1) fun v2 =>
 gd_s (gs_I σ 41 0 v2) fun s3 =>
 if (gI s3 41 0) = 0 then
  gd_g (gd_in a 32) <|
  gd_s (gs_A s3 44 a.toNatClampNeg b) fun s4 =>
  some (.inl none, s4)
 else
  some (.inl none, s3)
set_option maxRecDepth 20000 in
theorem X_M_set (a : Int32) (b : Int32) (σ : gS) (r0 : gQ × gS) (h : F_M_set a b σ = some r0) : gv_K m_M_set [.ref 41, .int a, .int b] σ (gv_is r0.1 r0.2) := by
  unfold F_M_set at h
  show gv_V m_M_set 1 true 0 [some (.ref 41), some (.int a), some (.int b)] [] σ (gv_is r0.1 r0.2)
  refine gv_aload_n (n := 0) (pc' := 1) (by decide +kernel) rfl rfl ?_
  refine gv_aload_n (n := 0) (pc' := 2) (by decide +kernel) rfl rfl ?_
  refine gv_getj lk_9_95 (by decide +kernel) rfl rfl (pc' := 5) rfl ?_
  refine gd_tC (fun (v2 : Int32) => gv_V m_M_set 1 true 35 [some (.ref 41), some (.int a), some (.int b)] [.int v2, .ref 41] σ (gv_is r0.1 r0.2)) h (fun v2 h => ?_) (fun KJ1 hJ1 h => ?_)
  · refine gd_puti lp_9_92 (by decide +kernel) rfl rfl rfl rfl (pc' := 38) rfl h (fun s3 h => ?_)
    refine gv_aload_n (n := 0) (pc' := 39) (by decide +kernel) rfl rfl ?_
    refine gv_getj lk_9_92 (by decide +kernel) rfl rfl (pc' := 42) rfl ?_
    refine gv_if_ne (off := 10) (tgt := 52) (pc' := 45) (by decide +kernel) (by decide) rfl (fun c42 => ?_) (fun c42 => ?_)
    · replace h := gd_F c42 h
      exact gv_ret (by decide +kernel) rfl (by decide) (by decide) (gd_rE h)
    · replace h := gd_T c42 h
      refine gv_aload_n (n := 0) (pc' := 46) (by decide +kernel) rfl rfl ?_
      refine gv_getr lk_9_20 (by decide +kernel) rfl rfl (pc' := 49) rfl ?_
      refine gv_iload_n (n := 1) (pc' := 50) (by decide +kernel) rfl rfl ?_
      refine gv_iload_n (n := 2) (pc' := 51) (by decide +kernel) rfl rfl ?_
      obtain ⟨g51, h⟩ := gd_gE h
      refine gd_iast (pc' := 52) (by decide +kernel) rfl (gd_inv g51) rfl h (fun s4 h => ?_)
      exact gv_ret (by decide +kernel) rfl (by decide) (by decide) (gd_rE h)
  · refine gv_if_eq (off := 10) (tgt := 15) (pc' := 8) (by decide +kernel) (by decide) rfl (fun c5 => ?_) (fun c5 => ?_)
    · replace h := gd_tT c5 h
      refine gv_iconst (n := 1) (v := 1) (pc' := 16) (by decide +kernel) (by decide) rfl ?_
      refine gv_goto (off := 19) (tgt := 35) (by decide +kernel) (by decide) ?_
      exact gd_ar (gl_s (gl_s (gl_s gl_z))) (fun _ => rfl) (hJ1 _ h)
    · replace h := gd_tF c5 h
      refine gv_aload_n (n := 0) (pc' := 9) (by decide +kernel) rfl rfl ?_
      refine gv_getj lk_9_151 (by decide +kernel) rfl rfl (pc' := 12) rfl ?_
      refine gv_if_le (off := 7) (tgt := 19) (pc' := 15) (by decide +kernel) (by decide) rfl (fun c12 => ?_) (fun c12 => ?_)
      · replace h := gd_tT c12 h
        refine gv_iload_n (n := 1) (pc' := 20) (by decide +kernel) rfl rfl ?_
        refine gv_iconst (n := 1) (v := 1) (pc' := 21) (by decide +kernel) (by decide) rfl ?_
        refine gv_icmp_lt (off := 9) (tgt := 30) (pc' := 24) (by decide +kernel) (by decide) rfl (fun c21 => ?_) (fun c21 => ?_)
        · replace h := gd_tT c21 h
          refine gv_iconst (n := 2) (v := 2) (pc' := 31) (by decide +kernel) (by decide) rfl ?_
          refine gv_goto (off := 4) (tgt := 35) (by decide +kernel) (by decide) ?_
          exact gd_ar (gl_s (gl_s (gl_s gl_z))) (fun _ => rfl) (hJ1 _ h)
        · replace h := gd_tF c21 h
          refine gv_iload_n (n := 1) (pc' := 25) (by decide +kernel) rfl rfl ?_
          refine gv_bipush (n := 31) (v := 31) (pc' := 27) (by decide +kernel) (by decide) rfl ?_
          refine gv_icmp_le (off := 7) (tgt := 34) (pc' := 30) (by decide +kernel) (by decide) rfl (fun c27 => ?_) (fun c27 => ?_)
          · replace h := gd_tT c27 h
            refine gv_iconst (n := 0) (v := 0) (pc' := 35) (by decide +kernel) (by decide) rfl ?_
            exact gd_ar (gl_s (gl_s (gl_s gl_z))) (fun _ => rfl) (hJ1 _ h)
          · replace h := gd_tF c27 h
            refine gv_iconst (n := 2) (v := 2) (pc' := 31) (by decide +kernel) (by decide) rfl ?_
            refine gv_goto (off := 4) (tgt := 35) (by decide +kernel) (by decide) ?_
            exact gd_ar (gl_s (gl_s (gl_s gl_z))) (fun _ => rfl) (hJ1 _ h)
      · replace h := gd_tF c12 h
        refine gv_iconst (n := 1) (v := 1) (pc' := 16) (by decide +kernel) (by decide) rfl ?_
        refine gv_goto (off := 19) (tgt := 35) (by decide +kernel) (by decide) ?_
        exact gd_ar (gl_s (gl_s (gl_s gl_z))) (fun _ => rfl) (hJ1 _ h)
def F_M_register (a : Int32) (σ : gS) : gR :=
 gd_t (α := Int32) (if (gI σ 41 5) = 0 then
   1
  else
   if a < 0 then
    2
   else
    if a ≤ 31 then
     0
    else
     2) fun v2 =>
 gd_s (gs_I σ 41 0 v2) fun s3 =>
 if (gI s3 41 0) ≤ 0 then
  gd_g (gd_in a 32) <|
  some (.inl (some (.int (gA s3 44 a.toNatClampNeg))), s3)
 else
  some (.inl (some (.int 0)), s3)
set_option maxRecDepth 20000 in
theorem X_M_register (a : Int32) (σ : gS) (r0 : gQ × gS) (h : F_M_register a σ = some r0) : gv_K m_M_register [.ref 41, .int a] σ (gv_is r0.1 r0.2) := by
  unfold F_M_register at h
  show gv_V m_M_register 1 true 0 [some (.ref 41), some (.int a)] [] σ (gv_is r0.1 r0.2)
  refine gv_aload_n (n := 0) (pc' := 1) (by decide +kernel) rfl rfl ?_
  refine gv_aload_n (n := 0) (pc' := 2) (by decide +kernel) rfl rfl ?_
  refine gv_getj lk_9_95 (by decide +kernel) rfl rfl (pc' := 5) rfl ?_
  refine gd_tC (fun (v2 : Int32) => gv_V m_M_register 1 true 27 [some (.ref 41), some (.int a)] [.int v2, .ref 41] σ (gv_is r0.1 r0.2)) h (fun v2 h => ?_) (fun KJ1 hJ1 h => ?_)
  · refine gd_puti lp_9_92 (by decide +kernel) rfl rfl rfl rfl (pc' := 30) rfl h (fun s3 h => ?_)
    refine gv_aload_n (n := 0) (pc' := 31) (by decide +kernel) rfl rfl ?_
    refine gv_getj lk_9_92 (by decide +kernel) rfl rfl (pc' := 34) rfl ?_
    refine gv_if_le (off := 7) (tgt := 41) (pc' := 37) (by decide +kernel) (by decide) rfl (fun c34 => ?_) (fun c34 => ?_)
    · replace h := gd_T c34 h
      refine gv_aload_n (n := 0) (pc' := 42) (by decide +kernel) rfl rfl ?_
      refine gv_getr lk_9_20 (by decide +kernel) rfl rfl (pc' := 45) rfl ?_
      refine gv_iload_n (n := 1) (pc' := 46) (by decide +kernel) rfl rfl ?_
      obtain ⟨g46, h⟩ := gd_gE h
      refine gj_iald _ (pc' := 47) (by decide +kernel) rfl (gd_inv g46) rfl rfl ?_
      exact gv_iret .int (by decide +kernel) rfl rfl (by decide) (by decide) (gd_rE h)
    · replace h := gd_F c34 h
      refine gv_iconst (n := 0) (v := 0) (pc' := 38) (by decide +kernel) (by decide) rfl ?_
      refine gv_goto (off := 9) (tgt := 47) (by decide +kernel) (by decide) ?_
      exact gv_iret .int (by decide +kernel) rfl rfl (by decide) (by decide) (gd_rE h)
  · refine gv_if_ne (off := 7) (tgt := 12) (pc' := 8) (by decide +kernel) (by decide) rfl (fun c5 => ?_) (fun c5 => ?_)
    · replace h := gd_tF c5 h
      refine gv_iload_n (n := 1) (pc' := 13) (by decide +kernel) rfl rfl ?_
      refine gv_if_lt (off := 9) (tgt := 22) (pc' := 16) (by decide +kernel) (by decide) rfl (fun c13 => ?_) (fun c13 => ?_)
      · replace h := gd_tT c13 h
        refine gv_iconst (n := 2) (v := 2) (pc' := 23) (by decide +kernel) (by decide) rfl ?_
        refine gv_goto (off := 4) (tgt := 27) (by decide +kernel) (by decide) ?_
        exact gd_ar (gl_s (gl_s gl_z)) (fun _ => rfl) (hJ1 _ h)
      · replace h := gd_tF c13 h
        refine gv_iload_n (n := 1) (pc' := 17) (by decide +kernel) rfl rfl ?_
        refine gv_bipush (n := 31) (v := 31) (pc' := 19) (by decide +kernel) (by decide) rfl ?_
        refine gv_icmp_le (off := 7) (tgt := 26) (pc' := 22) (by decide +kernel) (by decide) rfl (fun c19 => ?_) (fun c19 => ?_)
        · replace h := gd_tT c19 h
          refine gv_iconst (n := 0) (v := 0) (pc' := 27) (by decide +kernel) (by decide) rfl ?_
          exact gd_ar (gl_s (gl_s gl_z)) (fun _ => rfl) (hJ1 _ h)
        · replace h := gd_tF c19 h
          refine gv_iconst (n := 2) (v := 2) (pc' := 23) (by decide +kernel) (by decide) rfl ?_
          refine gv_goto (off := 4) (tgt := 27) (by decide +kernel) (by decide) ?_
          exact gd_ar (gl_s (gl_s gl_z)) (fun _ => rfl) (hJ1 _ h)
    · replace h := gd_tT c5 h
      refine gv_iconst (n := 1) (v := 1) (pc' := 9) (by decide +kernel) (by decide) rfl ?_
      refine gv_goto (off := 18) (tgt := 27) (by decide +kernel) (by decide) ?_
      exact gd_ar (gl_s (gl_s gl_z)) (fun _ => rfl) (hJ1 _ h)
def B_M_write_12 (x_2_1 : Int32) (x_3_2 : Int32) (x_4_3 : Int32) (ag6 : Int32 → gS → gR) (n_5_4 : Int32) (s5 : gS) : gR :=
 if x_2_1 ≤ n_5_4 then
  some (.inl none, s5)
 else
  gd_g (gd_in (x_4_3 + n_5_4) 256) <|
  gd_s (gs_A s5 45 (x_4_3 + n_5_4).toNatClampNeg ((x_3_2 >>> (((8 : Int32) * n_5_4) &&& 31)) &&& (255 : Int32))) fun s7 =>
  ag6 (n_5_4 + 1) s7
set_option maxRecDepth 20000 in
theorem L_M_write_12 (x_2_1 : Int32) (x_3_2 : Int32) (x_4_3 : Int32) (r0 : gQ × gS) (n : Nat) : ∀ (n_5_4 : Int32) (s5 : gS), gd_lp (fun _ _ => none) (B_M_write_12 x_2_1 x_3_2 x_4_3) n n_5_4 s5 = some r0 → gv_V m_M_write 1 false 12 [some (.ref 41), none, some (.int x_2_1), some (.int x_3_2), some (.int x_4_3), some (.int n_5_4)] [] s5 (gv_is r0.1 r0.2) := by
  refine gd_lpC (fun (ag6 : Int32 → gS → gR) => ∀ (n_5_4 : Int32) (s5 : gS), ag6 n_5_4 s5 = some r0 → gv_V m_M_write 1 false 12 [some (.ref 41), none, some (.int x_2_1), some (.int x_3_2), some (.int x_4_3), some (.int n_5_4)] [] s5 (gv_is r0.1 r0.2)) (fun n_5_4 s5 h => by cases h) (fun ag6 ih n_5_4 s5 h => ?_) n
  unfold B_M_write_12 at h
  refine gv_iload (n := 5) (pc' := 14) (by decide +kernel) rfl rfl ?_
  refine gv_iload_n (n := 2) (pc' := 15) (by decide +kernel) rfl rfl ?_
  refine gv_icmp_ge (off := 30) (tgt := 45) (pc' := 18) (by decide +kernel) (by decide) rfl (fun c15 => ?_) (fun c15 => ?_)
  · replace h := gd_T c15 h
    exact gv_ret (by decide +kernel) rfl (by decide) (by decide) (gd_rE h)
  · replace h := gd_F c15 h
    refine gv_aload_n (n := 0) (pc' := 19) (by decide +kernel) rfl rfl ?_
    refine gv_getr lk_9_23 (by decide +kernel) rfl rfl (pc' := 22) rfl ?_
    refine gv_iload (n := 4) (pc' := 24) (by decide +kernel) rfl rfl ?_
    refine gv_iload (n := 5) (pc' := 26) (by decide +kernel) rfl rfl ?_
    refine gv_iadd (pc' := 27) (by decide +kernel) rfl ?_
    refine gv_iload_n (n := 3) (pc' := 28) (by decide +kernel) rfl rfl ?_
    refine gv_bipush (n := 8) (v := 8) (pc' := 30) (by decide +kernel) (by decide) rfl ?_
    refine gv_iload (n := 5) (pc' := 32) (by decide +kernel) rfl rfl ?_
    refine gv_imul (pc' := 33) (by decide +kernel) rfl ?_
    refine gv_ishr (pc' := 34) (by decide +kernel) rfl ?_
    refine gv_sipush (n := 255) (v := 255) (pc' := 37) (by decide +kernel) (by decide) rfl ?_
    refine gv_iand (pc' := 38) (by decide +kernel) rfl ?_
    obtain ⟨g38, h⟩ := gd_gE h
    refine gd_iast (pc' := 39) (by decide +kernel) rfl (gd_inv g38) rfl h (fun s7 h => ?_)
    refine gv_iincc (i := 5) (n := 1) (c := 1) (pc' := 42) (by decide +kernel) rfl (by decide) (by decide) rfl ?_
    refine gv_goto (off := -30) (tgt := 12) (by decide +kernel) (by decide) ?_
    exact gd_ar (gl_s (gl_n (gl_s (gl_s (gl_s (gl_s gl_z)))))) (fun z => by cases z) (ih _ _ h)
def F_M_write (a : Int32) (b : Int32) (c : Int32) (σ : gS) : gR :=
 gd_lp (fun _ _ => none) (B_M_write_12 b c (a &&& ((256 : Int32) - b))) gd_N 0 σ
set_option maxRecDepth 20000 in
theorem X_M_write (a : Int32) (b : Int32) (c : Int32) (σ : gS) (r0 : gQ × gS) (h : F_M_write a b c σ = some r0) : gv_K m_M_write [.ref 41, .int a, .int b, .int c] σ (gv_is r0.1 r0.2) := by
  unfold F_M_write at h
  show gv_V m_M_write 1 true 0 [some (.ref 41), some (.int a), some (.int b), some (.int c), none, none] [] σ (gv_is r0.1 r0.2)
  refine gv_iload_n (n := 1) (pc' := 1) (by decide +kernel) rfl rfl ?_
  refine gv_sipush (n := 256) (v := 256) (pc' := 4) (by decide +kernel) (by decide) rfl ?_
  refine gv_iload_n (n := 2) (pc' := 5) (by decide +kernel) rfl rfl ?_
  refine gv_isub (pc' := 6) (by decide +kernel) rfl ?_
  refine gv_iand (pc' := 7) (by decide +kernel) rfl ?_
  refine gv_istore (n := 4) (pc' := 9) (by decide +kernel) (by decide) rfl ?_
  refine gv_iconst (n := 0) (v := 0) (pc' := 10) (by decide +kernel) (by decide) rfl ?_
  refine gv_istore (n := 5) (pc' := 12) (by decide +kernel) (by decide) rfl ?_
  exact gd_ar (gl_s (gl_n (gl_s (gl_s (gl_s (gl_s gl_z)))))) (fun z => by cases z) (L_M_write_12 _ _ _ r0 _ _ _ h)
def F_M_poke (a : Int32) (b : Int32) (σ : gS) : gR :=
 gd_t (α := Int32) (if (gI σ 41 5) = 0 then
   1
  else
   if (gI σ 41 18) ≤ 0 then
    0
   else
    1) fun v2 =>
 gd_s (gs_I σ 41 0 v2) fun s3 =>
 if (gI s3 41 0) = 0 then
  gd_0 (F_M_write a 4 b s3) fun s4 =>
  some (.inl none, s4)
 else
  some (.inl none, s3)
set_option maxRecDepth 20000 in
theorem X_M_poke (a : Int32) (b : Int32) (σ : gS) (r0 : gQ × gS) (h : F_M_poke a b σ = some r0) : gv_K m_M_poke [.ref 41, .int a, .int b] σ (gv_is r0.1 r0.2) := by
  unfold F_M_poke at h
  show gv_V m_M_poke 1 true 0 [some (.ref 41), some (.int a), some (.int b)] [] σ (gv_is r0.1 r0.2)
  refine gv_aload_n (n := 0) (pc' := 1) (by decide +kernel) rfl rfl ?_
  refine gv_aload_n (n := 0) (pc' := 2) (by decide +kernel) rfl rfl ?_
  refine gv_getj lk_9_95 (by decide +kernel) rfl rfl (pc' := 5) rfl ?_
  refine gd_tC (fun (v2 : Int32) => gv_V m_M_poke 1 true 20 [some (.ref 41), some (.int a), some (.int b)] [.int v2, .ref 41] σ (gv_is r0.1 r0.2)) h (fun v2 h => ?_) (fun KJ1 hJ1 h => ?_)
  · refine gd_puti lp_9_92 (by decide +kernel) rfl rfl rfl rfl (pc' := 23) rfl h (fun s3 h => ?_)
    refine gv_aload_n (n := 0) (pc' := 24) (by decide +kernel) rfl rfl ?_
    refine gv_getj lk_9_92 (by decide +kernel) rfl rfl (pc' := 27) rfl ?_
    refine gv_if_ne (off := 10) (tgt := 37) (pc' := 30) (by decide +kernel) (by decide) rfl (fun c27 => ?_) (fun c27 => ?_)
    · replace h := gd_F c27 h
      exact gv_ret (by decide +kernel) rfl (by decide) (by decide) (gd_rE h)
    · replace h := gd_T c27 h
      refine gv_aload_n (n := 0) (pc' := 31) (by decide +kernel) rfl rfl ?_
      refine gv_iload_n (n := 1) (pc' := 32) (by decide +kernel) rfl rfl ?_
      refine gv_iconst (n := 4) (v := 4) (pc' := 33) (by decide +kernel) (by decide) rfl ?_
      refine gv_iload_n (n := 2) (pc' := 34) (by decide +kernel) rfl rfl ?_
      refine gd_cv0 (w' := false) (pc' := 37) (X_M_write _ _ _ _) h md_M_write vd_M_write (Or.inl ml_9_179) (by decide +kernel) (by decide) rfl rfl rfl (Nat.le_of_ble_eq_true rfl) (Nat.le_of_ble_eq_true rfl) (by decide) rfl (fun z => by cases z) (by decide) rfl (fun s4 h => ?_)
      exact gv_ret (by decide +kernel) rfl (by decide) (by decide) (gd_rE h)
  · refine gv_if_eq (off := 10) (tgt := 15) (pc' := 8) (by decide +kernel) (by decide) rfl (fun c5 => ?_) (fun c5 => ?_)
    · replace h := gd_tT c5 h
      refine gv_iconst (n := 1) (v := 1) (pc' := 16) (by decide +kernel) (by decide) rfl ?_
      refine gv_goto (off := 4) (tgt := 20) (by decide +kernel) (by decide) ?_
      exact gd_ar (gl_s (gl_s (gl_s gl_z))) (fun _ => rfl) (hJ1 _ h)
    · replace h := gd_tF c5 h
      refine gv_aload_n (n := 0) (pc' := 9) (by decide +kernel) rfl rfl ?_
      refine gv_getj lk_9_151 (by decide +kernel) rfl rfl (pc' := 12) rfl ?_
      refine gv_if_le (off := 7) (tgt := 19) (pc' := 15) (by decide +kernel) (by decide) rfl (fun c12 => ?_) (fun c12 => ?_)
      · replace h := gd_tT c12 h
        refine gv_iconst (n := 0) (v := 0) (pc' := 20) (by decide +kernel) (by decide) rfl ?_
        exact gd_ar (gl_s (gl_s (gl_s gl_z))) (fun _ => rfl) (hJ1 _ h)
      · replace h := gd_tF c12 h
        refine gv_iconst (n := 1) (v := 1) (pc' := 16) (by decide +kernel) (by decide) rfl ?_
        refine gv_goto (off := 4) (tgt := 20) (by decide +kernel) (by decide) ?_
        exact gd_ar (gl_s (gl_s (gl_s gl_z))) (fun _ => rfl) (hJ1 _ h)
def B_M_read_16 (σ : gS) (x_3_1 : Int32) (ag4 : Int32 → Int32 → gP) (n_4_2 : Int32) (n_5_3 : Int32) : gP :=
 if n_5_3 < 0 then
  some (.inl (some (.int n_4_2)))
 else
  gd_g (gd_in (x_3_1 + n_5_3) 256) <|
  ag4 ((n_4_2 <<< ((8 : Int32) &&& 31)) ||| (gA σ 45 (x_3_1 + n_5_3).toNatClampNeg)) (n_5_3 + (-1))
set_option maxRecDepth 20000 in
theorem L_M_read_16 (σ : gS) (x_3_1 : Int32) (r0 : gQ) (n : Nat) : ∀ (n_4_2 : Int32) (n_5_3 : Int32), gd_lp (fun _ _ => none) (B_M_read_16 σ x_3_1) n n_4_2 n_5_3 = some r0 → gv_V m_M_read 1 true 16 [some (.ref 41), none, none, some (.int x_3_1), some (.int n_4_2), some (.int n_5_3)] [] σ (gv_is r0 σ) := by
  refine gd_lpC (fun (ag4 : Int32 → Int32 → gP) => ∀ (n_4_2 : Int32) (n_5_3 : Int32), ag4 n_4_2 n_5_3 = some r0 → gv_V m_M_read 1 true 16 [some (.ref 41), none, none, some (.int x_3_1), some (.int n_4_2), some (.int n_5_3)] [] σ (gv_is r0 σ)) (fun n_4_2 n_5_3 h => by cases h) (fun ag4 ih n_4_2 n_5_3 h => ?_) n
  unfold B_M_read_16 at h
  refine gv_iload (n := 5) (pc' := 18) (by decide +kernel) rfl rfl ?_
  refine gv_if_lt (off := 26) (tgt := 44) (pc' := 21) (by decide +kernel) (by decide) rfl (fun c18 => ?_) (fun c18 => ?_)
  · replace h := gd_T c18 h
    refine gv_iload (n := 4) (pc' := 46) (by decide +kernel) rfl rfl ?_
    exact gv_iret .int (by decide +kernel) rfl rfl (by decide) (by decide) (gd_pE h)
  · replace h := gd_F c18 h
    refine gv_iload (n := 4) (pc' := 23) (by decide +kernel) rfl rfl ?_
    refine gv_bipush (n := 8) (v := 8) (pc' := 25) (by decide +kernel) (by decide) rfl ?_
    refine gv_ishl (pc' := 26) (by decide +kernel) rfl ?_
    refine gv_aload_n (n := 0) (pc' := 27) (by decide +kernel) rfl rfl ?_
    refine gv_getr lk_9_23 (by decide +kernel) rfl rfl (pc' := 30) rfl ?_
    refine gv_iload_n (n := 3) (pc' := 31) (by decide +kernel) rfl rfl ?_
    refine gv_iload (n := 5) (pc' := 33) (by decide +kernel) rfl rfl ?_
    refine gv_iadd (pc' := 34) (by decide +kernel) rfl ?_
    obtain ⟨g34, h⟩ := gd_gE h
    refine gj_iald _ (pc' := 35) (by decide +kernel) rfl (gd_inv g34) rfl rfl ?_
    refine gv_ior (pc' := 36) (by decide +kernel) rfl ?_
    refine gv_istore (n := 4) (pc' := 38) (by decide +kernel) (by decide) rfl ?_
    refine gv_iincc (i := 5) (n := (-1)) (c := (-1)) (pc' := 41) (by decide +kernel) rfl (by decide) (by decide) rfl ?_
    refine gv_goto (off := -25) (tgt := 16) (by decide +kernel) (by decide) ?_
    exact gd_ar (gl_s (gl_n (gl_n (gl_s (gl_s (gl_s gl_z)))))) (fun _ => rfl) (ih _ _ h)
def R_M_read (a : Int32) (b : Int32) (σ : gS) : gP :=
 gd_lp (fun _ _ => none) (B_M_read_16 σ (a &&& ((256 : Int32) - b))) gd_N 0 (b - (1 : Int32))
set_option maxRecDepth 20000 in
theorem X_M_read (a : Int32) (b : Int32) (σ : gS) (r0 : gQ) (h : R_M_read a b σ = some r0) : gv_K m_M_read [.ref 41, .int a, .int b] σ (gv_is r0 σ) := by
  unfold R_M_read at h
  show gv_V m_M_read 1 true 0 [some (.ref 41), some (.int a), some (.int b), none, none, none] [] σ (gv_is r0 σ)
  refine gv_iload_n (n := 1) (pc' := 1) (by decide +kernel) rfl rfl ?_
  refine gv_sipush (n := 256) (v := 256) (pc' := 4) (by decide +kernel) (by decide) rfl ?_
  refine gv_iload_n (n := 2) (pc' := 5) (by decide +kernel) rfl rfl ?_
  refine gv_isub (pc' := 6) (by decide +kernel) rfl ?_
  refine gv_iand (pc' := 7) (by decide +kernel) rfl ?_
  refine gv_istore_n (n := 3) (pc' := 8) (by decide +kernel) (by decide) rfl ?_
  refine gv_iconst (n := 0) (v := 0) (pc' := 9) (by decide +kernel) (by decide) rfl ?_
  refine gv_istore (n := 4) (pc' := 11) (by decide +kernel) (by decide) rfl ?_
  refine gv_iload_n (n := 2) (pc' := 12) (by decide +kernel) rfl rfl ?_
  refine gv_iconst (n := 1) (v := 1) (pc' := 13) (by decide +kernel) (by decide) rfl ?_
  refine gv_isub (pc' := 14) (by decide +kernel) rfl ?_
  refine gv_istore (n := 5) (pc' := 16) (by decide +kernel) (by decide) rfl ?_
  exact gd_ar (gl_s (gl_n (gl_n (gl_s (gl_s (gl_s gl_z)))))) (fun _ => rfl) (L_M_read_16 _ _ r0 _ _ _ h)
def F_M_peek (a : Int32) (σ : gS) : gR :=
 gd_t (α := Int32) (if (gI σ 41 5) = 0 then
   1
  else
   0) fun v2 =>
 gd_s (gs_I σ 41 0 v2) fun s3 =>
 if (gI s3 41 0) ≤ 0 then
  gd_qi (R_M_read a 4 s3) s3 fun r4 =>
  some (.inl (some (.int r4)), s3)
 else
  some (.inl (some (.int 0)), s3)
set_option maxRecDepth 20000 in
theorem X_M_peek (a : Int32) (σ : gS) (r0 : gQ × gS) (h : F_M_peek a σ = some r0) : gv_K m_M_peek [.ref 41, .int a] σ (gv_is r0.1 r0.2) := by
  unfold F_M_peek at h
  show gv_V m_M_peek 1 true 0 [some (.ref 41), some (.int a)] [] σ (gv_is r0.1 r0.2)
  refine gv_aload_n (n := 0) (pc' := 1) (by decide +kernel) rfl rfl ?_
  refine gv_aload_n (n := 0) (pc' := 2) (by decide +kernel) rfl rfl ?_
  refine gv_getj lk_9_95 (by decide +kernel) rfl rfl (pc' := 5) rfl ?_
  refine gd_tC (fun (v2 : Int32) => gv_V m_M_peek 1 true 13 [some (.ref 41), some (.int a)] [.int v2, .ref 41] σ (gv_is r0.1 r0.2)) h (fun v2 h => ?_) (fun KJ1 hJ1 h => ?_)
  · refine gd_puti lp_9_92 (by decide +kernel) rfl rfl rfl rfl (pc' := 16) rfl h (fun s3 h => ?_)
    refine gv_aload_n (n := 0) (pc' := 17) (by decide +kernel) rfl rfl ?_
    refine gv_getj lk_9_92 (by decide +kernel) rfl rfl (pc' := 20) rfl ?_
    refine gv_if_le (off := 7) (tgt := 27) (pc' := 23) (by decide +kernel) (by decide) rfl (fun c20 => ?_) (fun c20 => ?_)
    · replace h := gd_T c20 h
      refine gv_aload_n (n := 0) (pc' := 28) (by decide +kernel) rfl rfl ?_
      refine gv_iload_n (n := 1) (pc' := 29) (by decide +kernel) rfl rfl ?_
      refine gv_iconst (n := 4) (v := 4) (pc' := 30) (by decide +kernel) (by decide) rfl ?_
      refine gd_dvi (w' := false) (pc' := 33) (X_M_read _ _ _) h md_M_read vd_M_read (Or.inl ml_9_183) (by decide +kernel) (by decide) rfl rfl rfl (Nat.le_of_ble_eq_true rfl) (Nat.le_of_ble_eq_true rfl) (by decide) rfl (fun z => by cases z) (by decide) rfl (fun r4 h => ?_)
      exact gv_iret .int (by decide +kernel) rfl rfl (by decide) (by decide) (gd_rE h)
    · replace h := gd_F c20 h
      refine gv_iconst (n := 0) (v := 0) (pc' := 24) (by decide +kernel) (by decide) rfl ?_
      refine gv_goto (off := 9) (tgt := 33) (by decide +kernel) (by decide) ?_
      exact gv_iret .int (by decide +kernel) rfl rfl (by decide) (by decide) (gd_rE h)
  · refine gv_if_eq (off := 7) (tgt := 12) (pc' := 8) (by decide +kernel) (by decide) rfl (fun c5 => ?_) (fun c5 => ?_)
    · replace h := gd_tT c5 h
      refine gv_iconst (n := 1) (v := 1) (pc' := 13) (by decide +kernel) (by decide) rfl ?_
      exact gd_ar (gl_s (gl_s gl_z)) (fun _ => rfl) (hJ1 _ h)
    · replace h := gd_tF c5 h
      refine gv_iconst (n := 0) (v := 0) (pc' := 9) (by decide +kernel) (by decide) rfl ?_
      refine gv_goto (off := 4) (tgt := 13) (by decide +kernel) (by decide) ?_
      exact gd_ar (gl_s (gl_s gl_z)) (fun _ => rfl) (hJ1 _ h)
def F_M_tell (a : Int32) (b : Int32) (σ : gS) : gR :=
 gd_g (gd_in (gI σ 41 11) 2048) <|
 gd_s (gs_L σ 46 (gI σ 41 11).toNatClampNeg (((Int32.toInt64 a) <<< (Int32.toInt64 (32 : Int32) &&& 63)) ||| ((Int32.toInt64 b) &&& (4294967295 : Int64)))) fun s1 =>
 gd_s (gs_I s1 41 11 ((gI s1 41 11) + (1 : Int32))) fun s2 =>
 some (.inl none, s2)
set_option maxRecDepth 20000 in
theorem X_M_tell (a : Int32) (b : Int32) (σ : gS) (r0 : gQ × gS) (h : F_M_tell a b σ = some r0) : gv_K m_M_tell [.ref 41, .int a, .int b] σ (gv_is r0.1 r0.2) := by
  unfold F_M_tell at h
  show gv_V m_M_tell 1 true 0 [some (.ref 41), some (.int a), some (.int b)] [] σ (gv_is r0.1 r0.2)
  refine gv_aload_n (n := 0) (pc' := 1) (by decide +kernel) rfl rfl ?_
  refine gv_getr lk_9_26 (by decide +kernel) rfl rfl (pc' := 4) rfl ?_
  refine gv_aload_n (n := 0) (pc' := 5) (by decide +kernel) rfl rfl ?_
  refine gv_getj lk_9_148 (by decide +kernel) rfl rfl (pc' := 8) rfl ?_
  refine gv_iload_n (n := 1) (pc' := 9) (by decide +kernel) rfl rfl ?_
  refine gv_i2l (pc' := 10) (by decide +kernel) rfl ?_
  refine gv_bipush (n := 32) (v := 32) (pc' := 12) (by decide +kernel) (by decide) rfl ?_
  refine gv_lshl (pc' := 13) (by decide +kernel) rfl ?_
  refine gv_iload_n (n := 2) (pc' := 14) (by decide +kernel) rfl rfl ?_
  refine gv_i2l (pc' := 15) (by decide +kernel) rfl ?_
  refine gv_ldc2 (v := 4294967295) (pc' := 18) (by decide +kernel) cn_9_112 rfl ?_
  refine gv_land (pc' := 19) (by decide +kernel) rfl ?_
  refine gv_lor (pc' := 20) (by decide +kernel) rfl ?_
  obtain ⟨g20, h⟩ := gd_gE h
  refine gd_last (pc' := 21) (by decide +kernel) rfl (gd_inv g20) rfl h (fun s1 h => ?_)
  refine gv_aload_n (n := 0) (pc' := 22) (by decide +kernel) rfl rfl ?_
  refine gv_dup (pc' := 23) (by decide +kernel) rfl rfl ?_
  refine gv_getj lk_9_148 (by decide +kernel) rfl rfl (pc' := 26) rfl ?_
  refine gv_iconst (n := 1) (v := 1) (pc' := 27) (by decide +kernel) (by decide) rfl ?_
  refine gv_iadd (pc' := 28) (by decide +kernel) rfl ?_
  refine gd_puti lp_9_148 (by decide +kernel) rfl rfl rfl rfl (pc' := 31) rfl h (fun s2 h => ?_)
  exact gv_ret (by decide +kernel) rfl (by decide) (by decide) (gd_rE h)
def f_M_less (a : Int32) (b : Int32) (c : Int32) : Int32 :=
 if c = 0 then
  if b ≤ a then
   0
  else
   1
 else
  if 0 ≤ (lg_cmp ((Int32.toInt64 a) &&& (4294967295 : Int64)) ((Int32.toInt64 b) &&& (4294967295 : Int64))) then
   0
  else
   1
set_option maxRecDepth 20000 in
theorem y_M_less (a : Int32) (b : Int32) (c : Int32) (σ : gS) : gv_K m_M_less [.int a, .int b, .int c] σ (gv_is (.inl (some (.int (f_M_less a b c)))) σ) := by
  generalize h : f_M_less a b c = r0
  unfold f_M_less at h
  show gv_V m_M_less 1 true 0 [some (.int a), some (.int b), some (.int c)] [] σ (gv_is (.inl (some (.int r0))) σ)
  refine gv_iload_n (n := 2) (pc' := 1) (by decide +kernel) rfl rfl ?_
  refine gv_if_eq (off := 27) (tgt := 28) (pc' := 4) (by decide +kernel) (by decide) rfl (fun c1 => ?_) (fun c1 => ?_)
  · replace h := gd_T c1 h
    refine gv_iload_n (n := 0) (pc' := 29) (by decide +kernel) rfl rfl ?_
    refine gv_iload_n (n := 1) (pc' := 30) (by decide +kernel) rfl rfl ?_
    refine gv_icmp_ge (off := 7) (tgt := 37) (pc' := 33) (by decide +kernel) (by decide) rfl (fun c30 => ?_) (fun c30 => ?_)
    · replace h := gd_T c30 h
      refine gv_iconst (n := 0) (v := 0) (pc' := 38) (by decide +kernel) (by decide) rfl ?_
      exact gv_iret .boolean (by decide +kernel) rfl rfl (by decide) (by decide) (gd_vE h)
    · replace h := gd_F c30 h
      refine gv_iconst (n := 1) (v := 1) (pc' := 34) (by decide +kernel) (by decide) rfl ?_
      refine gv_goto (off := 4) (tgt := 38) (by decide +kernel) (by decide) ?_
      exact gv_iret .boolean (by decide +kernel) rfl rfl (by decide) (by decide) (gd_vE h)
  · replace h := gd_F c1 h
    refine gv_iload_n (n := 0) (pc' := 5) (by decide +kernel) rfl rfl ?_
    refine gv_i2l (pc' := 6) (by decide +kernel) rfl ?_
    refine gv_ldc2 (v := 4294967295) (pc' := 9) (by decide +kernel) cn_9_112 rfl ?_
    refine gv_land (pc' := 10) (by decide +kernel) rfl ?_
    refine gv_iload_n (n := 1) (pc' := 11) (by decide +kernel) rfl rfl ?_
    refine gv_i2l (pc' := 12) (by decide +kernel) rfl ?_
    refine gv_ldc2 (v := 4294967295) (pc' := 15) (by decide +kernel) cn_9_112 rfl ?_
    refine gv_land (pc' := 16) (by decide +kernel) rfl ?_
    refine gv_lcmp (pc' := 17) (by decide +kernel) rfl ?_
    refine gv_if_ge (off := 7) (tgt := 24) (pc' := 20) (by decide +kernel) (by decide) rfl (fun c17 => ?_) (fun c17 => ?_)
    · replace h := gd_T c17 h
      refine gv_iconst (n := 0) (v := 0) (pc' := 25) (by decide +kernel) (by decide) rfl ?_
      refine gv_goto (off := 13) (tgt := 38) (by decide +kernel) (by decide) ?_
      exact gv_iret .boolean (by decide +kernel) rfl rfl (by decide) (by decide) (gd_vE h)
    · replace h := gd_F c17 h
      refine gv_iconst (n := 1) (v := 1) (pc' := 21) (by decide +kernel) (by decide) rfl ?_
      refine gv_goto (off := 17) (tgt := 38) (by decide +kernel) (by decide) ?_
      exact gv_iret .boolean (by decide +kernel) rfl rfl (by decide) (by decide) (gd_vE h)
theorem z_M_less (a : Int32) (b : Int32) (c : Int32) : f_M_less a b c = 0 ∨ f_M_less a b c = 1 := by
  unfold f_M_less
  repeat' split
  all_goals first | exact Or.inl rfl | exact Or.inr rfl
def R_M_goal (a : Int32) (b : Int32) (c : Int32) (σ : gS) : gP :=
 gd_g (gd_in a 1040) <|
 gd_j (α := Int32 → gP) (fun (v4 : Int32) =>
  gd_t (α := Int32) (if ((f_M_f (gA σ 42 a.toNatClampNeg)) - (f_M_f (gA σ 42 a.toNatClampNeg)) / (2 : Int32) * (2 : Int32)) = 1 then
    if v4 = 0 then
     1
    else
     0
   else
    v4) fun v6 =>
  if v6 = 0 then
   some (.inl (some (.int (a + (1 : Int32)))))
  else
   gd_pi (R_M_target a σ) fun r7 =>
   some (.inl (some (.int r7)))) fun J1 =>
 if 2 ≤ (f_M_f (gA σ 42 a.toNatClampNeg)) then
  gd_t (α := Int32) (if (f_M_f (gA σ 42 a.toNatClampNeg)) ≤ 5 then
    0
   else
    1) fun v3 =>
  J1 (f_M_less b c v3)
 else
  if b = c then
   J1 1
  else
   J1 0
set_option maxRecDepth 20000 in
theorem X_M_goal (a : Int32) (b : Int32) (c : Int32) (σ : gS) (r0 : gQ) (h : R_M_goal a b c σ = some r0) : gv_K m_M_goal [.ref 41, .int a, .int b, .int c] σ (gv_is r0 σ) := by
  unfold R_M_goal at h
  show gv_V m_M_goal 1 true 0 [some (.ref 41), some (.int a), some (.int b), some (.int c), none, none] [] σ (gv_is r0 σ)
  refine gv_aload_n (n := 0) (pc' := 1) (by decide +kernel) rfl rfl ?_
  refine gv_getr lk_9_7 (by decide +kernel) rfl rfl (pc' := 4) rfl ?_
  refine gv_iload_n (n := 1) (pc' := 5) (by decide +kernel) rfl rfl ?_
  obtain ⟨g5, h⟩ := gd_gE h
  refine gj_iald _ (pc' := 6) (by decide +kernel) rfl (gd_inv g5) rfl rfl ?_
  refine gv_csi (w' := true) (pc' := 9) (y_M_f _ _) md_M_f sd_M_f (Or.inl ml_9_114) (by decide +kernel) (by decide) rfl (Nat.le_of_ble_eq_true rfl) (Nat.le_of_ble_eq_true rfl) (by decide) rfl (fun z => ⟨rfl, z⟩) (by decide) rfl ?_
  refine gv_istore (n := 4) (pc' := 11) (by decide +kernel) (by decide) rfl ?_
  refine gv_iload (n := 4) (pc' := 13) (by decide +kernel) rfl rfl ?_
  refine gv_iconst (n := 2) (v := 2) (pc' := 14) (by decide +kernel) (by decide) rfl ?_
  refine gd_jC (fun J1 => ∀ (v4 : Int32), J1 v4 = some r0 → gv_V m_M_goal 1 true 46 [some (.ref 41), some (.int a), none, none, some (.int (f_M_f (gA σ 42 a.toNatClampNeg))), none] [.int v4] σ (gv_is r0 σ)) h (fun v4 h => ?_) (fun J1 hJ1 h => ?_)
  · refine gv_istore (n := 5) (pc' := 48) (by decide +kernel) (by decide) rfl ?_
    refine gv_iload (n := 4) (pc' := 50) (by decide +kernel) rfl rfl ?_
    refine gv_iconst (n := 2) (v := 2) (pc' := 51) (by decide +kernel) (by decide) rfl ?_
    refine gv_irem (pc' := 52) (by decide +kernel) (by decide) rfl ?_
    refine gv_iconst (n := 1) (v := 1) (pc' := 53) (by decide +kernel) (by decide) rfl ?_
    refine gd_tC (fun (v6 : Int32) => gv_V m_M_goal 1 true 71 [some (.ref 41), some (.int a), none, none, none, none] [.int v6] σ (gv_is r0 σ)) h (fun v6 h => ?_) (fun KJ5 hJ5 h => ?_)
    · refine gv_istore (n := 5) (pc' := 73) (by decide +kernel) (by decide) rfl ?_
      refine gv_iload (n := 5) (pc' := 75) (by decide +kernel) rfl rfl ?_
      refine gv_if_eq (off := 11) (tgt := 86) (pc' := 78) (by decide +kernel) (by decide) rfl (fun c75 => ?_) (fun c75 => ?_)
      · replace h := gd_T c75 h
        refine gv_iload_n (n := 1) (pc' := 87) (by decide +kernel) rfl rfl ?_
        refine gv_iconst (n := 1) (v := 1) (pc' := 88) (by decide +kernel) (by decide) rfl ?_
        refine gv_iadd (pc' := 89) (by decide +kernel) rfl ?_
        exact gv_iret .int (by decide +kernel) rfl rfl (by decide) (by decide) (gd_pE h)
      · replace h := gd_F c75 h
        refine gv_aload_n (n := 0) (pc' := 79) (by decide +kernel) rfl rfl ?_
        refine gv_iload_n (n := 1) (pc' := 80) (by decide +kernel) rfl rfl ?_
        refine gd_evi (w' := true) (pc' := 83) (X_M_target _ _) h md_M_target vd_M_target (Or.inl ml_9_133) (by decide +kernel) (by decide) rfl rfl rfl (Nat.le_of_ble_eq_true rfl) (Nat.le_of_ble_eq_true rfl) (by decide) rfl (fun z => ⟨rfl, z⟩) (by decide) rfl (fun r7 h => ?_)
        refine gv_goto (off := 6) (tgt := 89) (by decide +kernel) (by decide) ?_
        exact gv_iret .int (by decide +kernel) rfl rfl (by decide) (by decide) (gd_pE h)
    · refine gv_icmp_ne (off := 16) (tgt := 69) (pc' := 56) (by decide +kernel) (by decide) rfl (fun c53 => ?_) (fun c53 => ?_)
      · replace h := gd_tF c53 h
        refine gv_iload (n := 5) (pc' := 71) (by decide +kernel) rfl rfl ?_
        exact gd_ar (gl_s (gl_s (gl_n (gl_n (gl_n (gl_n gl_z)))))) (fun _ => rfl) (hJ5 _ h)
      · replace h := gd_tT c53 h
        refine gv_iload (n := 5) (pc' := 58) (by decide +kernel) rfl rfl ?_
        refine gv_if_ne (off := 7) (tgt := 65) (pc' := 61) (by decide +kernel) (by decide) rfl (fun c58 => ?_) (fun c58 => ?_)
        · replace h := gd_tF c58 h
          refine gv_iconst (n := 0) (v := 0) (pc' := 66) (by decide +kernel) (by decide) rfl ?_
          refine gv_goto (off := 5) (tgt := 71) (by decide +kernel) (by decide) ?_
          exact gd_ar (gl_s (gl_s (gl_n (gl_n (gl_n (gl_n gl_z)))))) (fun _ => rfl) (hJ5 _ h)
        · replace h := gd_tT c58 h
          refine gv_iconst (n := 1) (v := 1) (pc' := 62) (by decide +kernel) (by decide) rfl ?_
          refine gv_goto (off := 9) (tgt := 71) (by decide +kernel) (by decide) ?_
          exact gd_ar (gl_s (gl_s (gl_n (gl_n (gl_n (gl_n gl_z)))))) (fun _ => rfl) (hJ5 _ h)
  · refine gv_icmp_ge (off := 16) (tgt := 30) (pc' := 17) (by decide +kernel) (by decide) rfl (fun c14 => ?_) (fun c14 => ?_)
    · replace h := gd_T c14 h
      refine gv_iload_n (n := 2) (pc' := 31) (by decide +kernel) rfl rfl ?_
      refine gv_iload_n (n := 3) (pc' := 32) (by decide +kernel) rfl rfl ?_
      refine gv_iload (n := 4) (pc' := 34) (by decide +kernel) rfl rfl ?_
      refine gv_iconst (n := 5) (v := 5) (pc' := 35) (by decide +kernel) (by decide) rfl ?_
      refine gd_tC (fun (v3 : Int32) => gv_V m_M_goal 1 true 43 [some (.ref 41), some (.int a), none, none, some (.int (f_M_f (gA σ 42 a.toNatClampNeg))), none] [.int v3, .int c, .int b] σ (gv_is r0 σ)) h (fun v3 h => ?_) (fun KJ2 hJ2 h => ?_)
      · refine gv_csi (w' := true) (pc' := 46) (y_M_less _ _ _ _) md_M_less sd_M_less (Or.inl ml_9_187) (by decide +kernel) (by decide) rfl (Nat.le_of_ble_eq_true rfl) (Nat.le_of_ble_eq_true rfl) (by decide) rfl (fun z => ⟨rfl, z⟩) (by decide) rfl ?_
        exact gd_ar (gl_s (gl_s (gl_n (gl_n (gl_s (gl_n gl_z)))))) (fun _ => rfl) (hJ1 _ h)
      · refine gv_icmp_le (off := 7) (tgt := 42) (pc' := 38) (by decide +kernel) (by decide) rfl (fun c35 => ?_) (fun c35 => ?_)
        · replace h := gd_tT c35 h
          refine gv_iconst (n := 0) (v := 0) (pc' := 43) (by decide +kernel) (by decide) rfl ?_
          exact gd_ar (gl_s (gl_s (gl_n (gl_n (gl_s (gl_n gl_z)))))) (fun _ => rfl) (hJ2 _ h)
        · replace h := gd_tF c35 h
          refine gv_iconst (n := 1) (v := 1) (pc' := 39) (by decide +kernel) (by decide) rfl ?_
          refine gv_goto (off := 4) (tgt := 43) (by decide +kernel) (by decide) ?_
          exact gd_ar (gl_s (gl_s (gl_n (gl_n (gl_s (gl_n gl_z)))))) (fun _ => rfl) (hJ2 _ h)
    · replace h := gd_F c14 h
      refine gv_iload_n (n := 2) (pc' := 18) (by decide +kernel) rfl rfl ?_
      refine gv_iload_n (n := 3) (pc' := 19) (by decide +kernel) rfl rfl ?_
      refine gv_icmp_ne (off := 7) (tgt := 26) (pc' := 22) (by decide +kernel) (by decide) rfl (fun c19 => ?_) (fun c19 => ?_)
      · replace h := gd_F c19 h
        refine gv_iconst (n := 0) (v := 0) (pc' := 27) (by decide +kernel) (by decide) rfl ?_
        refine gv_goto (off := 19) (tgt := 46) (by decide +kernel) (by decide) ?_
        exact gd_ar (gl_s (gl_s (gl_n (gl_n (gl_s (gl_n gl_z)))))) (fun _ => rfl) (hJ1 _ h)
      · replace h := gd_T c19 h
        refine gv_iconst (n := 1) (v := 1) (pc' := 23) (by decide +kernel) (by decide) rfl ?_
        refine gv_goto (off := 23) (tgt := 46) (by decide +kernel) (by decide) ?_
        exact gd_ar (gl_s (gl_s (gl_n (gl_n (gl_s (gl_n gl_z)))))) (fun _ => rfl) (hJ1 _ h)
def F_M_loadedValue (a : Int32) (b : Int32) (σ : gS) : gR :=
 gd_0 (F_M_tell 1 b σ) fun s1 =>
 if (f_M_f a) = 0 then
  gd_qi (R_M_read b 1 s1) s1 fun r2 =>
  some (.inl (some (.int ((r2 <<< ((24 : Int32) &&& 31)) >>> ((24 : Int32) &&& 31)))), s1)
 else if (f_M_f a) = 1 then
  gd_qi (R_M_read b 2 s1) s1 fun r3 =>
  some (.inl (some (.int ((r3 <<< ((16 : Int32) &&& 31)) >>> ((16 : Int32) &&& 31)))), s1)
 else if (f_M_f a) = 2 then
  gd_qi (R_M_read b 4 s1) s1 fun r4 =>
  some (.inl (some (.int r4)), s1)
 else if (f_M_f a) = 3 then
  gd_qi (R_M_read b 2 s1) s1 fun r5 =>
  some (.inl (some (.int r5)), s1)
 else if (f_M_f a) = 4 then
  gd_qi (R_M_read b 1 s1) s1 fun r6 =>
  some (.inl (some (.int r6)), s1)
 else 
  gd_qi (R_M_read b 2 s1) s1 fun r7 =>
  some (.inl (some (.int r7)), s1)
set_option maxRecDepth 20000 in
theorem X_M_loadedValue (a : Int32) (b : Int32) (σ : gS) (r0 : gQ × gS) (h : F_M_loadedValue a b σ = some r0) : gv_K m_M_loadedValue [.ref 41, .int a, .int b] σ (gv_is r0.1 r0.2) := by
  unfold F_M_loadedValue at h
  show gv_V m_M_loadedValue 1 true 0 [some (.ref 41), some (.int a), some (.int b)] [] σ (gv_is r0.1 r0.2)
  refine gv_aload_n (n := 0) (pc' := 1) (by decide +kernel) rfl rfl ?_
  refine gv_iconst (n := 1) (v := 1) (pc' := 2) (by decide +kernel) (by decide) rfl ?_
  refine gv_iload_n (n := 2) (pc' := 3) (by decide +kernel) rfl rfl ?_
  refine gd_cv0 (w' := false) (pc' := 6) (X_M_tell _ _ _) h md_M_tell vd_M_tell (Or.inl ml_9_201) (by decide +kernel) (by decide) rfl rfl rfl (Nat.le_of_ble_eq_true rfl) (Nat.le_of_ble_eq_true rfl) (by decide) rfl (fun z => by cases z) (by decide) rfl (fun s1 h => ?_)
  refine gv_iload_n (n := 1) (pc' := 7) (by decide +kernel) rfl rfl ?_
  refine gv_csi (w' := false) (pc' := 10) (y_M_f _ _) md_M_f sd_M_f (Or.inl ml_9_114) (by decide +kernel) (by decide) rfl (Nat.le_of_ble_eq_true rfl) (Nat.le_of_ble_eq_true rfl) (by decide) rfl (fun z => by cases z) (by decide) rfl ?_
  by_cases q10_0 : (f_M_f a) = 0
  · replace h := gd_T q10_0 h
    refine gd_tbT (dflt := 74) (lo := 0) (hi := 4) (offs := #[34, 47, 60, 74, 67]) (len := 34) (off := 34) (tgt := 44) q10_0 (by decide +kernel) (by decide) (by decide) rfl (by decide) ?_
    refine gv_aload_n (n := 0) (pc' := 45) (by decide +kernel) rfl rfl ?_
    refine gv_iload_n (n := 2) (pc' := 46) (by decide +kernel) rfl rfl ?_
    refine gv_iconst (n := 1) (v := 1) (pc' := 47) (by decide +kernel) (by decide) rfl ?_
    refine gd_dvi (w' := false) (pc' := 50) (X_M_read _ _ _) h md_M_read vd_M_read (Or.inl ml_9_183) (by decide +kernel) (by decide) rfl rfl rfl (Nat.le_of_ble_eq_true rfl) (Nat.le_of_ble_eq_true rfl) (by decide) rfl (fun z => by cases z) (by decide) rfl (fun r2 h => ?_)
    refine gv_bipush (n := 24) (v := 24) (pc' := 52) (by decide +kernel) (by decide) rfl ?_
    refine gv_ishl (pc' := 53) (by decide +kernel) rfl ?_
    refine gv_bipush (n := 24) (v := 24) (pc' := 55) (by decide +kernel) (by decide) rfl ?_
    refine gv_ishr (pc' := 56) (by decide +kernel) rfl ?_
    exact gv_iret .int (by decide +kernel) rfl rfl (by decide) (by decide) (gd_rE h)
  replace h := gd_F q10_0 h
  by_cases q10_1 : (f_M_f a) = 1
  · replace h := gd_T q10_1 h
    refine gd_tbT (dflt := 74) (lo := 0) (hi := 4) (offs := #[34, 47, 60, 74, 67]) (len := 34) (off := 47) (tgt := 57) q10_1 (by decide +kernel) (by decide) (by decide) rfl (by decide) ?_
    refine gv_aload_n (n := 0) (pc' := 58) (by decide +kernel) rfl rfl ?_
    refine gv_iload_n (n := 2) (pc' := 59) (by decide +kernel) rfl rfl ?_
    refine gv_iconst (n := 2) (v := 2) (pc' := 60) (by decide +kernel) (by decide) rfl ?_
    refine gd_dvi (w' := false) (pc' := 63) (X_M_read _ _ _) h md_M_read vd_M_read (Or.inl ml_9_183) (by decide +kernel) (by decide) rfl rfl rfl (Nat.le_of_ble_eq_true rfl) (Nat.le_of_ble_eq_true rfl) (by decide) rfl (fun z => by cases z) (by decide) rfl (fun r3 h => ?_)
    refine gv_bipush (n := 16) (v := 16) (pc' := 65) (by decide +kernel) (by decide) rfl ?_
    refine gv_ishl (pc' := 66) (by decide +kernel) rfl ?_
    refine gv_bipush (n := 16) (v := 16) (pc' := 68) (by decide +kernel) (by decide) rfl ?_
    refine gv_ishr (pc' := 69) (by decide +kernel) rfl ?_
    exact gv_iret .int (by decide +kernel) rfl rfl (by decide) (by decide) (gd_rE h)
  replace h := gd_F q10_1 h
  by_cases q10_2 : (f_M_f a) = 2
  · replace h := gd_T q10_2 h
    refine gd_tbT (dflt := 74) (lo := 0) (hi := 4) (offs := #[34, 47, 60, 74, 67]) (len := 34) (off := 60) (tgt := 70) q10_2 (by decide +kernel) (by decide) (by decide) rfl (by decide) ?_
    refine gv_aload_n (n := 0) (pc' := 71) (by decide +kernel) rfl rfl ?_
    refine gv_iload_n (n := 2) (pc' := 72) (by decide +kernel) rfl rfl ?_
    refine gv_iconst (n := 4) (v := 4) (pc' := 73) (by decide +kernel) (by decide) rfl ?_
    refine gd_dvi (w' := false) (pc' := 76) (X_M_read _ _ _) h md_M_read vd_M_read (Or.inl ml_9_183) (by decide +kernel) (by decide) rfl rfl rfl (Nat.le_of_ble_eq_true rfl) (Nat.le_of_ble_eq_true rfl) (by decide) rfl (fun z => by cases z) (by decide) rfl (fun r4 h => ?_)
    exact gv_iret .int (by decide +kernel) rfl rfl (by decide) (by decide) (gd_rE h)
  replace h := gd_F q10_2 h
  by_cases q10_3 : (f_M_f a) = 3
  · replace h := gd_T q10_3 h
    refine gd_tbT (dflt := 74) (lo := 0) (hi := 4) (offs := #[34, 47, 60, 74, 67]) (len := 34) (off := 74) (tgt := 84) q10_3 (by decide +kernel) (by decide) (by decide) rfl (by decide) ?_
    refine gv_aload_n (n := 0) (pc' := 85) (by decide +kernel) rfl rfl ?_
    refine gv_iload_n (n := 2) (pc' := 86) (by decide +kernel) rfl rfl ?_
    refine gv_iconst (n := 2) (v := 2) (pc' := 87) (by decide +kernel) (by decide) rfl ?_
    refine gd_dvi (w' := false) (pc' := 90) (X_M_read _ _ _) h md_M_read vd_M_read (Or.inl ml_9_183) (by decide +kernel) (by decide) rfl rfl rfl (Nat.le_of_ble_eq_true rfl) (Nat.le_of_ble_eq_true rfl) (by decide) rfl (fun z => by cases z) (by decide) rfl (fun r5 h => ?_)
    exact gv_iret .int (by decide +kernel) rfl rfl (by decide) (by decide) (gd_rE h)
  replace h := gd_F q10_3 h
  by_cases q10_4 : (f_M_f a) = 4
  · replace h := gd_T q10_4 h
    refine gd_tbT (dflt := 74) (lo := 0) (hi := 4) (offs := #[34, 47, 60, 74, 67]) (len := 34) (off := 67) (tgt := 77) q10_4 (by decide +kernel) (by decide) (by decide) rfl (by decide) ?_
    refine gv_aload_n (n := 0) (pc' := 78) (by decide +kernel) rfl rfl ?_
    refine gv_iload_n (n := 2) (pc' := 79) (by decide +kernel) rfl rfl ?_
    refine gv_iconst (n := 1) (v := 1) (pc' := 80) (by decide +kernel) (by decide) rfl ?_
    refine gd_dvi (w' := false) (pc' := 83) (X_M_read _ _ _) h md_M_read vd_M_read (Or.inl ml_9_183) (by decide +kernel) (by decide) rfl rfl rfl (Nat.le_of_ble_eq_true rfl) (Nat.le_of_ble_eq_true rfl) (by decide) rfl (fun z => by cases z) (by decide) rfl (fun r6 h => ?_)
    exact gv_iret .int (by decide +kernel) rfl rfl (by decide) (by decide) (gd_rE h)
  replace h := gd_F q10_4 h
  refine gv_tableOut (dflt := 74) (lo := 0) (hi := 4) (offs := #[34, 47, 60, 74, 67]) (len := 34) (tgt := 84) (by decide +kernel) (gd_tbs (a := 4) (gd_tbs (a := 3) (gd_tbs (a := 2) (gd_tbs (a := 1) (gd_tbs (a := 0) (gd_tb0 (lo := 0)) q10_0 (by decide) (by decide)) q10_1 (by decide) (by decide)) q10_2 (by decide) (by decide)) q10_3 (by decide) (by decide)) q10_4 (by decide) (by decide)) (by decide) ?_
  refine gv_aload_n (n := 0) (pc' := 85) (by decide +kernel) rfl rfl ?_
  refine gv_iload_n (n := 2) (pc' := 86) (by decide +kernel) rfl rfl ?_
  refine gv_iconst (n := 2) (v := 2) (pc' := 87) (by decide +kernel) (by decide) rfl ?_
  refine gd_dvi (w' := false) (pc' := 90) (X_M_read _ _ _) h md_M_read vd_M_read (Or.inl ml_9_183) (by decide +kernel) (by decide) rfl rfl rfl (Nat.le_of_ble_eq_true rfl) (Nat.le_of_ble_eq_true rfl) (by decide) rfl (fun z => by cases z) (by decide) rfl (fun r7 h => ?_)
  exact gv_iret .int (by decide +kernel) rfl rfl (by decide) (by decide) (gd_rE h)
def f_M_made (a : Int32) (b : Int32) (c : Int32) (d : Int32) : Int32 :=
 if a = 0 then
  if d = 0 then
   b + c
  else
   b - c
 else if a = 1 then
  b <<< ((c &&& (31 : Int32)) &&& 31)
 else if a = 2 then
  if (f_M_less b c 0) = 0 then
   0
  else
   1
 else if a = 3 then
  if (f_M_less b c 1) = 0 then
   0
  else
   1
 else if a = 4 then
  b ^^^ c
 else if a = 5 then
  if d = 0 then
   Int64.toInt32 (((Int32.toInt64 b) &&& (4294967295 : Int64)) >>> (Int32.toInt64 (c &&& (31 : Int32)) &&& 63))
  else
   b >>> ((c &&& (31 : Int32)) &&& 31)
 else if a = 6 then
  b ||| c
 else 
  b &&& c
set_option maxRecDepth 20000 in
theorem y_M_made (a : Int32) (b : Int32) (c : Int32) (d : Int32) (σ : gS) : gv_K m_M_made [.int a, .int b, .int c, .int d] σ (gv_is (.inl (some (.int (f_M_made a b c d)))) σ) := by
  generalize h : f_M_made a b c d = r0
  unfold f_M_made at h
  show gv_V m_M_made 1 true 0 [some (.int a), some (.int b), some (.int c), some (.int d)] [] σ (gv_is (.inl (some (.int r0))) σ)
  refine gv_iload_n (n := 0) (pc' := 1) (by decide +kernel) rfl rfl ?_
  by_cases q1_0 : a = 0
  · replace h := gd_T q1_0 h
    refine gd_tbT (dflt := 128) (lo := 0) (hi := 6) (offs := #[43, 57, 64, 79, 94, 98, 124]) (len := 43) (off := 43) (tgt := 44) q1_0 (by decide +kernel) (by decide) (by decide) rfl (by decide) ?_
    refine gv_iload_n (n := 3) (pc' := 45) (by decide +kernel) rfl rfl ?_
    refine gv_if_eq (off := 9) (tgt := 54) (pc' := 48) (by decide +kernel) (by decide) rfl (fun c45 => ?_) (fun c45 => ?_)
    · replace h := gd_T c45 h
      refine gv_iload_n (n := 1) (pc' := 55) (by decide +kernel) rfl rfl ?_
      refine gv_iload_n (n := 2) (pc' := 56) (by decide +kernel) rfl rfl ?_
      refine gv_iadd (pc' := 57) (by decide +kernel) rfl ?_
      exact gv_iret .int (by decide +kernel) rfl rfl (by decide) (by decide) (gd_vE h)
    · replace h := gd_F c45 h
      refine gv_iload_n (n := 1) (pc' := 49) (by decide +kernel) rfl rfl ?_
      refine gv_iload_n (n := 2) (pc' := 50) (by decide +kernel) rfl rfl ?_
      refine gv_isub (pc' := 51) (by decide +kernel) rfl ?_
      refine gv_goto (off := 6) (tgt := 57) (by decide +kernel) (by decide) ?_
      exact gv_iret .int (by decide +kernel) rfl rfl (by decide) (by decide) (gd_vE h)
  replace h := gd_F q1_0 h
  by_cases q1_1 : a = 1
  · replace h := gd_T q1_1 h
    refine gd_tbT (dflt := 128) (lo := 0) (hi := 6) (offs := #[43, 57, 64, 79, 94, 98, 124]) (len := 43) (off := 57) (tgt := 58) q1_1 (by decide +kernel) (by decide) (by decide) rfl (by decide) ?_
    refine gv_iload_n (n := 1) (pc' := 59) (by decide +kernel) rfl rfl ?_
    refine gv_iload_n (n := 2) (pc' := 60) (by decide +kernel) rfl rfl ?_
    refine gv_bipush (n := 31) (v := 31) (pc' := 62) (by decide +kernel) (by decide) rfl ?_
    refine gv_iand (pc' := 63) (by decide +kernel) rfl ?_
    refine gv_ishl (pc' := 64) (by decide +kernel) rfl ?_
    exact gv_iret .int (by decide +kernel) rfl rfl (by decide) (by decide) (gd_vE h)
  replace h := gd_F q1_1 h
  by_cases q1_2 : a = 2
  · replace h := gd_T q1_2 h
    refine gd_tbT (dflt := 128) (lo := 0) (hi := 6) (offs := #[43, 57, 64, 79, 94, 98, 124]) (len := 43) (off := 64) (tgt := 65) q1_2 (by decide +kernel) (by decide) (by decide) rfl (by decide) ?_
    refine gv_iload_n (n := 1) (pc' := 66) (by decide +kernel) rfl rfl ?_
    refine gv_iload_n (n := 2) (pc' := 67) (by decide +kernel) rfl rfl ?_
    refine gv_iconst (n := 0) (v := 0) (pc' := 68) (by decide +kernel) (by decide) rfl ?_
    refine gv_csi (w' := true) (pc' := 71) (y_M_less _ _ _ _) md_M_less sd_M_less (Or.inl ml_9_187) (by decide +kernel) (by decide) rfl (Nat.le_of_ble_eq_true rfl) (Nat.le_of_ble_eq_true rfl) (by decide) rfl (fun z => ⟨rfl, z⟩) (by decide) rfl ?_
    refine gv_if_eq (off := 7) (tgt := 78) (pc' := 74) (by decide +kernel) (by decide) rfl (fun c71 => ?_) (fun c71 => ?_)
    · replace h := gd_T c71 h
      refine gv_iconst (n := 0) (v := 0) (pc' := 79) (by decide +kernel) (by decide) rfl ?_
      exact gv_iret .int (by decide +kernel) rfl rfl (by decide) (by decide) (gd_vE h)
    · replace h := gd_F c71 h
      refine gv_iconst (n := 1) (v := 1) (pc' := 75) (by decide +kernel) (by decide) rfl ?_
      refine gv_goto (off := 4) (tgt := 79) (by decide +kernel) (by decide) ?_
      exact gv_iret .int (by decide +kernel) rfl rfl (by decide) (by decide) (gd_vE h)
  replace h := gd_F q1_2 h
  by_cases q1_3 : a = 3
  · replace h := gd_T q1_3 h
    refine gd_tbT (dflt := 128) (lo := 0) (hi := 6) (offs := #[43, 57, 64, 79, 94, 98, 124]) (len := 43) (off := 79) (tgt := 80) q1_3 (by decide +kernel) (by decide) (by decide) rfl (by decide) ?_
    refine gv_iload_n (n := 1) (pc' := 81) (by decide +kernel) rfl rfl ?_
    refine gv_iload_n (n := 2) (pc' := 82) (by decide +kernel) rfl rfl ?_
    refine gv_iconst (n := 1) (v := 1) (pc' := 83) (by decide +kernel) (by decide) rfl ?_
    refine gv_csi (w' := true) (pc' := 86) (y_M_less _ _ _ _) md_M_less sd_M_less (Or.inl ml_9_187) (by decide +kernel) (by decide) rfl (Nat.le_of_ble_eq_true rfl) (Nat.le_of_ble_eq_true rfl) (by decide) rfl (fun z => ⟨rfl, z⟩) (by decide) rfl ?_
    refine gv_if_eq (off := 7) (tgt := 93) (pc' := 89) (by decide +kernel) (by decide) rfl (fun c86 => ?_) (fun c86 => ?_)
    · replace h := gd_T c86 h
      refine gv_iconst (n := 0) (v := 0) (pc' := 94) (by decide +kernel) (by decide) rfl ?_
      exact gv_iret .int (by decide +kernel) rfl rfl (by decide) (by decide) (gd_vE h)
    · replace h := gd_F c86 h
      refine gv_iconst (n := 1) (v := 1) (pc' := 90) (by decide +kernel) (by decide) rfl ?_
      refine gv_goto (off := 4) (tgt := 94) (by decide +kernel) (by decide) ?_
      exact gv_iret .int (by decide +kernel) rfl rfl (by decide) (by decide) (gd_vE h)
  replace h := gd_F q1_3 h
  by_cases q1_4 : a = 4
  · replace h := gd_T q1_4 h
    refine gd_tbT (dflt := 128) (lo := 0) (hi := 6) (offs := #[43, 57, 64, 79, 94, 98, 124]) (len := 43) (off := 94) (tgt := 95) q1_4 (by decide +kernel) (by decide) (by decide) rfl (by decide) ?_
    refine gv_iload_n (n := 1) (pc' := 96) (by decide +kernel) rfl rfl ?_
    refine gv_iload_n (n := 2) (pc' := 97) (by decide +kernel) rfl rfl ?_
    refine gv_ixor (pc' := 98) (by decide +kernel) rfl ?_
    exact gv_iret .int (by decide +kernel) rfl rfl (by decide) (by decide) (gd_vE h)
  replace h := gd_F q1_4 h
  by_cases q1_5 : a = 5
  · replace h := gd_T q1_5 h
    refine gd_tbT (dflt := 128) (lo := 0) (hi := 6) (offs := #[43, 57, 64, 79, 94, 98, 124]) (len := 43) (off := 98) (tgt := 99) q1_5 (by decide +kernel) (by decide) (by decide) rfl (by decide) ?_
    refine gv_iload_n (n := 3) (pc' := 100) (by decide +kernel) rfl rfl ?_
    refine gv_if_eq (off := 12) (tgt := 112) (pc' := 103) (by decide +kernel) (by decide) rfl (fun c100 => ?_) (fun c100 => ?_)
    · replace h := gd_T c100 h
      refine gv_iload_n (n := 1) (pc' := 113) (by decide +kernel) rfl rfl ?_
      refine gv_i2l (pc' := 114) (by decide +kernel) rfl ?_
      refine gv_ldc2 (v := 4294967295) (pc' := 117) (by decide +kernel) cn_9_112 rfl ?_
      refine gv_land (pc' := 118) (by decide +kernel) rfl ?_
      refine gv_iload_n (n := 2) (pc' := 119) (by decide +kernel) rfl rfl ?_
      refine gv_bipush (n := 31) (v := 31) (pc' := 121) (by decide +kernel) (by decide) rfl ?_
      refine gv_iand (pc' := 122) (by decide +kernel) rfl ?_
      refine gv_lshr (pc' := 123) (by decide +kernel) rfl ?_
      refine gv_l2i (pc' := 124) (by decide +kernel) rfl ?_
      exact gv_iret .int (by decide +kernel) rfl rfl (by decide) (by decide) (gd_vE h)
    · replace h := gd_F c100 h
      refine gv_iload_n (n := 1) (pc' := 104) (by decide +kernel) rfl rfl ?_
      refine gv_iload_n (n := 2) (pc' := 105) (by decide +kernel) rfl rfl ?_
      refine gv_bipush (n := 31) (v := 31) (pc' := 107) (by decide +kernel) (by decide) rfl ?_
      refine gv_iand (pc' := 108) (by decide +kernel) rfl ?_
      refine gv_ishr (pc' := 109) (by decide +kernel) rfl ?_
      refine gv_goto (off := 15) (tgt := 124) (by decide +kernel) (by decide) ?_
      exact gv_iret .int (by decide +kernel) rfl rfl (by decide) (by decide) (gd_vE h)
  replace h := gd_F q1_5 h
  by_cases q1_6 : a = 6
  · replace h := gd_T q1_6 h
    refine gd_tbT (dflt := 128) (lo := 0) (hi := 6) (offs := #[43, 57, 64, 79, 94, 98, 124]) (len := 43) (off := 124) (tgt := 125) q1_6 (by decide +kernel) (by decide) (by decide) rfl (by decide) ?_
    refine gv_iload_n (n := 1) (pc' := 126) (by decide +kernel) rfl rfl ?_
    refine gv_iload_n (n := 2) (pc' := 127) (by decide +kernel) rfl rfl ?_
    refine gv_ior (pc' := 128) (by decide +kernel) rfl ?_
    exact gv_iret .int (by decide +kernel) rfl rfl (by decide) (by decide) (gd_vE h)
  replace h := gd_F q1_6 h
  refine gv_tableOut (dflt := 128) (lo := 0) (hi := 6) (offs := #[43, 57, 64, 79, 94, 98, 124]) (len := 43) (tgt := 129) (by decide +kernel) (gd_tbs (a := 6) (gd_tbs (a := 5) (gd_tbs (a := 4) (gd_tbs (a := 3) (gd_tbs (a := 2) (gd_tbs (a := 1) (gd_tbs (a := 0) (gd_tb0 (lo := 0)) q1_0 (by decide) (by decide)) q1_1 (by decide) (by decide)) q1_2 (by decide) (by decide)) q1_3 (by decide) (by decide)) q1_4 (by decide) (by decide)) q1_5 (by decide) (by decide)) q1_6 (by decide) (by decide)) (by decide) ?_
  refine gv_iload_n (n := 1) (pc' := 130) (by decide +kernel) rfl rfl ?_
  refine gv_iload_n (n := 2) (pc' := 131) (by decide +kernel) rfl rfl ?_
  refine gv_iand (pc' := 132) (by decide +kernel) rfl ?_
  exact gv_iret .int (by decide +kernel) rfl rfl (by decide) (by decide) (gd_vE h)
def R_M_divided (a : Int32) (b : Int32) (c : Int32) (σ : gS) : gP :=
 gd_t (α := Int32) (if a = 5 then
   1
  else
   if a = 7 then
    1
   else
    0) fun v2 =>
 gd_t (α := Int32) (if a ≤ 5 then
   0
  else
   1) fun v4 =>
 if c = 0 then
  if v4 = 0 then
   some (.inl (some (.int (-1))))
  else
   some (.inl (some (.int b)))
 else
  gd_t (α := Int64) (if v2 = 0 then
    (Int32.toInt64 b)
   else
    ((Int32.toInt64 b) &&& (4294967295 : Int64))) fun v6 =>
  gd_t (α := Int64) (if v2 = 0 then
    (Int32.toInt64 c)
   else
    ((Int32.toInt64 c) &&& (4294967295 : Int64))) fun v8 =>
  gd_j (α := Int64 → gP) (fun (v10 : Int64) =>
   some (.inl (some (.int (Int64.toInt32 v10))))) fun J9 =>
  if v4 = 0 then
   gd_g (¬ v8 = 0) <|
   J9 (v6 / v8)
  else
   gd_g (¬ v8 = 0) <|
   J9 (v6 - v6 / v8 * v8)
set_option maxRecDepth 20000 in
theorem X_M_divided (a : Int32) (b : Int32) (c : Int32) (σ : gS) (r0 : gQ) (h : R_M_divided a b c σ = some r0) : gv_K m_M_divided [.int a, .int b, .int c] σ (gv_is r0 σ) := by
  unfold R_M_divided at h
  show gv_V m_M_divided 1 true 0 [some (.int a), some (.int b), some (.int c), none, none, none, none, none, none] [] σ (gv_is r0 σ)
  refine gv_iload_n (n := 0) (pc' := 1) (by decide +kernel) rfl rfl ?_
  refine gv_iconst (n := 5) (v := 5) (pc' := 2) (by decide +kernel) (by decide) rfl ?_
  refine gd_tC (fun (v2 : Int32) => gv_V m_M_divided 1 true 16 [some (.int a), some (.int b), some (.int c), none, none, none, none, none, none] [.int v2] σ (gv_is r0 σ)) h (fun v2 h => ?_) (fun KJ1 hJ1 h => ?_)
  · refine gv_istore_n (n := 3) (pc' := 17) (by decide +kernel) (by decide) rfl ?_
    refine gv_iload_n (n := 0) (pc' := 18) (by decide +kernel) rfl rfl ?_
    refine gv_iconst (n := 5) (v := 5) (pc' := 19) (by decide +kernel) (by decide) rfl ?_
    refine gd_tC (fun (v4 : Int32) => gv_V m_M_divided 1 true 27 [none, some (.int b), some (.int c), some (.int v2), none, none, none, none, none] [.int v4] σ (gv_is r0 σ)) h (fun v4 h => ?_) (fun KJ3 hJ3 h => ?_)
    · refine gv_istore (n := 4) (pc' := 29) (by decide +kernel) (by decide) rfl ?_
      refine gv_iload_n (n := 2) (pc' := 30) (by decide +kernel) rfl rfl ?_
      refine gv_if_ne (off := 14) (tgt := 44) (pc' := 33) (by decide +kernel) (by decide) rfl (fun c30 => ?_) (fun c30 => ?_)
      · replace h := gd_F c30 h
        refine gv_iload_n (n := 3) (pc' := 45) (by decide +kernel) rfl rfl ?_
        refine gd_tC (fun (v6 : Int64) => gv_V m_M_divided 1 true 59 [none, none, some (.int c), some (.int v2), some (.int v4), none, none, none, none] [.long v6] σ (gv_is r0 σ)) h (fun v6 h => ?_) (fun KJ5 hJ5 h => ?_)
        · refine gv_lstore (n := 5) (pc' := 61) (by decide +kernel) (by decide) rfl ?_
          refine gv_iload_n (n := 3) (pc' := 62) (by decide +kernel) rfl rfl ?_
          refine gd_tC (fun (v8 : Int64) => gv_V m_M_divided 1 true 76 [none, none, none, none, some (.int v4), some (.long v6), none, none, none] [.long v8] σ (gv_is r0 σ)) h (fun v8 h => ?_) (fun KJ7 hJ7 h => ?_)
          · refine gv_lstore (n := 7) (pc' := 78) (by decide +kernel) (by decide) rfl ?_
            refine gv_iload (n := 4) (pc' := 80) (by decide +kernel) rfl rfl ?_
            refine gd_jC (fun J9 => ∀ (v10 : Int64), J9 v10 = some r0 → gv_V m_M_divided 1 true 96 [none, none, none, none, none, none, none, none, none] [.long v10] σ (gv_is r0 σ)) h (fun v10 h => ?_) (fun J9 hJ9 h => ?_)
            · refine gv_l2i (pc' := 97) (by decide +kernel) rfl ?_
              exact gv_iret .int (by decide +kernel) rfl rfl (by decide) (by decide) (gd_pE h)
            · refine gv_if_eq (off := 11) (tgt := 91) (pc' := 83) (by decide +kernel) (by decide) rfl (fun c80 => ?_) (fun c80 => ?_)
              · replace h := gd_T c80 h
                refine gv_lload (n := 5) (pc' := 93) (by decide +kernel) rfl rfl ?_
                refine gv_lload (n := 7) (pc' := 95) (by decide +kernel) rfl rfl ?_
                obtain ⟨g95, h⟩ := gd_gE h
                refine gv_ldiv (pc' := 96) (by decide +kernel) g95 rfl ?_
                exact gd_ar (gl_n (gl_n (gl_n (gl_n (gl_n (gl_n (gl_n (gl_n (gl_n gl_z))))))))) (fun _ => rfl) (hJ9 _ h)
              · replace h := gd_F c80 h
                refine gv_lload (n := 5) (pc' := 85) (by decide +kernel) rfl rfl ?_
                refine gv_lload (n := 7) (pc' := 87) (by decide +kernel) rfl rfl ?_
                obtain ⟨g87, h⟩ := gd_gE h
                refine gv_lrem (pc' := 88) (by decide +kernel) g87 rfl ?_
                refine gv_goto (off := 8) (tgt := 96) (by decide +kernel) (by decide) ?_
                exact gd_ar (gl_n (gl_n (gl_n (gl_n (gl_n (gl_n (gl_n (gl_n (gl_n gl_z))))))))) (fun _ => rfl) (hJ9 _ h)
          · refine gv_if_eq (off := 12) (tgt := 74) (pc' := 65) (by decide +kernel) (by decide) rfl (fun c62 => ?_) (fun c62 => ?_)
            · replace h := gd_tT c62 h
              refine gv_iload_n (n := 2) (pc' := 75) (by decide +kernel) rfl rfl ?_
              refine gv_i2l (pc' := 76) (by decide +kernel) rfl ?_
              exact gd_ar (gl_n (gl_n (gl_n (gl_n (gl_s (gl_s (gl_n (gl_n (gl_n gl_z))))))))) (fun _ => rfl) (hJ7 _ h)
            · replace h := gd_tF c62 h
              refine gv_iload_n (n := 2) (pc' := 66) (by decide +kernel) rfl rfl ?_
              refine gv_i2l (pc' := 67) (by decide +kernel) rfl ?_
              refine gv_ldc2 (v := 4294967295) (pc' := 70) (by decide +kernel) cn_9_112 rfl ?_
              refine gv_land (pc' := 71) (by decide +kernel) rfl ?_
              refine gv_goto (off := 5) (tgt := 76) (by decide +kernel) (by decide) ?_
              exact gd_ar (gl_n (gl_n (gl_n (gl_n (gl_s (gl_s (gl_n (gl_n (gl_n gl_z))))))))) (fun _ => rfl) (hJ7 _ h)
        · refine gv_if_eq (off := 12) (tgt := 57) (pc' := 48) (by decide +kernel) (by decide) rfl (fun c45 => ?_) (fun c45 => ?_)
          · replace h := gd_tT c45 h
            refine gv_iload_n (n := 1) (pc' := 58) (by decide +kernel) rfl rfl ?_
            refine gv_i2l (pc' := 59) (by decide +kernel) rfl ?_
            exact gd_ar (gl_n (gl_n (gl_s (gl_s (gl_s (gl_n (gl_n (gl_n (gl_n gl_z))))))))) (fun _ => rfl) (hJ5 _ h)
          · replace h := gd_tF c45 h
            refine gv_iload_n (n := 1) (pc' := 49) (by decide +kernel) rfl rfl ?_
            refine gv_i2l (pc' := 50) (by decide +kernel) rfl ?_
            refine gv_ldc2 (v := 4294967295) (pc' := 53) (by decide +kernel) cn_9_112 rfl ?_
            refine gv_land (pc' := 54) (by decide +kernel) rfl ?_
            refine gv_goto (off := 5) (tgt := 59) (by decide +kernel) (by decide) ?_
            exact gd_ar (gl_n (gl_n (gl_s (gl_s (gl_s (gl_n (gl_n (gl_n (gl_n gl_z))))))))) (fun _ => rfl) (hJ5 _ h)
      · replace h := gd_T c30 h
        refine gv_iload (n := 4) (pc' := 35) (by decide +kernel) rfl rfl ?_
        refine gv_if_eq (off := 7) (tgt := 42) (pc' := 38) (by decide +kernel) (by decide) rfl (fun c35 => ?_) (fun c35 => ?_)
        · replace h := gd_T c35 h
          refine gv_iconst (n := (-1)) (v := (-1)) (pc' := 43) (by decide +kernel) (by decide) rfl ?_
          exact gv_iret .int (by decide +kernel) rfl rfl (by decide) (by decide) (gd_pE h)
        · replace h := gd_F c35 h
          refine gv_iload_n (n := 1) (pc' := 39) (by decide +kernel) rfl rfl ?_
          refine gv_goto (off := 4) (tgt := 43) (by decide +kernel) (by decide) ?_
          exact gv_iret .int (by decide +kernel) rfl rfl (by decide) (by decide) (gd_pE h)
    · refine gv_icmp_le (off := 7) (tgt := 26) (pc' := 22) (by decide +kernel) (by decide) rfl (fun c19 => ?_) (fun c19 => ?_)
      · replace h := gd_tT c19 h
        refine gv_iconst (n := 0) (v := 0) (pc' := 27) (by decide +kernel) (by decide) rfl ?_
        exact gd_ar (gl_n (gl_s (gl_s (gl_s (gl_n (gl_n (gl_n (gl_n (gl_n gl_z))))))))) (fun _ => rfl) (hJ3 _ h)
      · replace h := gd_tF c19 h
        refine gv_iconst (n := 1) (v := 1) (pc' := 23) (by decide +kernel) (by decide) rfl ?_
        refine gv_goto (off := 4) (tgt := 27) (by decide +kernel) (by decide) ?_
        exact gd_ar (gl_n (gl_s (gl_s (gl_s (gl_n (gl_n (gl_n (gl_n (gl_n gl_z))))))))) (fun _ => rfl) (hJ3 _ h)
  · refine gv_icmp_eq (off := 9) (tgt := 11) (pc' := 5) (by decide +kernel) (by decide) rfl (fun c2 => ?_) (fun c2 => ?_)
    · replace h := gd_tT c2 h
      refine gv_iconst (n := 1) (v := 1) (pc' := 12) (by decide +kernel) (by decide) rfl ?_
      refine gv_goto (off := 4) (tgt := 16) (by decide +kernel) (by decide) ?_
      exact gd_ar (gl_s (gl_s (gl_s (gl_n (gl_n (gl_n (gl_n (gl_n (gl_n gl_z))))))))) (fun _ => rfl) (hJ1 _ h)
    · replace h := gd_tF c2 h
      refine gv_iload_n (n := 0) (pc' := 6) (by decide +kernel) rfl rfl ?_
      refine gv_bipush (n := 7) (v := 7) (pc' := 8) (by decide +kernel) (by decide) rfl ?_
      refine gv_icmp_ne (off := 7) (tgt := 15) (pc' := 11) (by decide +kernel) (by decide) rfl (fun c8 => ?_) (fun c8 => ?_)
      · replace h := gd_tF c8 h
        refine gv_iconst (n := 0) (v := 0) (pc' := 16) (by decide +kernel) (by decide) rfl ?_
        exact gd_ar (gl_s (gl_s (gl_s (gl_n (gl_n (gl_n (gl_n (gl_n (gl_n gl_z))))))))) (fun _ => rfl) (hJ1 _ h)
      · replace h := gd_tT c8 h
        refine gv_iconst (n := 1) (v := 1) (pc' := 12) (by decide +kernel) (by decide) rfl ?_
        refine gv_goto (off := 4) (tgt := 16) (by decide +kernel) (by decide) ?_
        exact gd_ar (gl_s (gl_s (gl_s (gl_n (gl_n (gl_n (gl_n (gl_n (gl_n gl_z))))))))) (fun _ => rfl) (hJ1 _ h)
def f_M_multiplied (a : Int32) (b : Int32) (c : Int32) : Int32 :=
 gd_t (α := Int64) (if a = 3 then
   ((Int32.toInt64 b) &&& (4294967295 : Int64))
  else
   (Int32.toInt64 b)) fun v2 =>
 gd_j (α := Int64 → Int32) (fun (v5 : Int64) =>
  if a = 0 then
   Int64.toInt32 (v2 * v5)
  else
   Int64.toInt32 ((((v2 >>> (Int32.toInt64 (16 : Int32) &&& 63)) * v5) + (((v2 &&& (65535 : Int64)) * v5) >>> (Int32.toInt64 (16 : Int32) &&& 63))) >>> (Int32.toInt64 (16 : Int32) &&& 63))) fun J3 =>
 gd_j (α := Int32) (
  J3 (Int32.toInt64 c)) fun J4 =>
 if a = 0 then
  J4
 else
  if a = 1 then
   J4
  else
   J3 ((Int32.toInt64 c) &&& (4294967295 : Int64))
set_option maxRecDepth 20000 in
theorem y_M_multiplied (a : Int32) (b : Int32) (c : Int32) (σ : gS) : gv_K m_M_multiplied [.int a, .int b, .int c] σ (gv_is (.inl (some (.int (f_M_multiplied a b c)))) σ) := by
  generalize h : f_M_multiplied a b c = r0
  unfold f_M_multiplied at h
  show gv_V m_M_multiplied 1 true 0 [some (.int a), some (.int b), some (.int c), none, none, none, none, none, none, none, none] [] σ (gv_is (.inl (some (.int r0))) σ)
  refine gv_iload_n (n := 0) (pc' := 1) (by decide +kernel) rfl rfl ?_
  refine gv_iconst (n := 3) (v := 3) (pc' := 2) (by decide +kernel) (by decide) rfl ?_
  refine gd_tC (fun (v2 : Int64) => gv_V m_M_multiplied 1 true 16 [some (.int a), none, some (.int c), none, none, none, none, none, none, none, none] [.long v2] σ (gv_is (.inl (some (.int r0))) σ)) h (fun v2 h => ?_) (fun KJ1 hJ1 h => ?_)
  · refine gv_lstore_n (n := 3) (pc' := 17) (by decide +kernel) (by decide) rfl ?_
    refine gv_iload_n (n := 0) (pc' := 18) (by decide +kernel) rfl rfl ?_
    refine gd_jC (fun J3 => ∀ (v5 : Int64), J3 v5 = r0 → gv_V m_M_multiplied 1 true 37 [some (.int a), none, none, some (.long v2), none, none, none, none, none, none, none] [.long v5] σ (gv_is (.inl (some (.int r0))) σ)) h (fun v5 h => ?_) (fun J3 hJ3 h => ?_)
    · refine gv_lstore (n := 5) (pc' := 39) (by decide +kernel) (by decide) rfl ?_
      refine gv_lload_n (n := 3) (pc' := 40) (by decide +kernel) rfl rfl ?_
      refine gv_lload (n := 5) (pc' := 42) (by decide +kernel) rfl rfl ?_
      refine gv_lmul (pc' := 43) (by decide +kernel) rfl ?_
      refine gv_lstore (n := 7) (pc' := 45) (by decide +kernel) (by decide) rfl ?_
      refine gv_iload_n (n := 0) (pc' := 46) (by decide +kernel) rfl rfl ?_
      refine gv_if_ne (off := 7) (tgt := 53) (pc' := 49) (by decide +kernel) (by decide) rfl (fun c46 => ?_) (fun c46 => ?_)
      · replace h := gd_F c46 h
        refine gv_lload_n (n := 3) (pc' := 54) (by decide +kernel) rfl rfl ?_
        refine gv_bipush (n := 16) (v := 16) (pc' := 56) (by decide +kernel) (by decide) rfl ?_
        refine gv_lshr (pc' := 57) (by decide +kernel) rfl ?_
        refine gv_lload (n := 5) (pc' := 59) (by decide +kernel) rfl rfl ?_
        refine gv_lmul (pc' := 60) (by decide +kernel) rfl ?_
        refine gv_lload_n (n := 3) (pc' := 61) (by decide +kernel) rfl rfl ?_
        refine gv_ldc2 (v := 65535) (pc' := 64) (by decide +kernel) cn_9_191 rfl ?_
        refine gv_land (pc' := 65) (by decide +kernel) rfl ?_
        refine gv_lload (n := 5) (pc' := 67) (by decide +kernel) rfl rfl ?_
        refine gv_lmul (pc' := 68) (by decide +kernel) rfl ?_
        refine gv_bipush (n := 16) (v := 16) (pc' := 70) (by decide +kernel) (by decide) rfl ?_
        refine gv_lshr (pc' := 71) (by decide +kernel) rfl ?_
        refine gv_ladd (pc' := 72) (by decide +kernel) rfl ?_
        refine gv_bipush (n := 16) (v := 16) (pc' := 74) (by decide +kernel) (by decide) rfl ?_
        refine gv_lshr (pc' := 75) (by decide +kernel) rfl ?_
        refine gv_lstore (n := 9) (pc' := 77) (by decide +kernel) (by decide) rfl ?_
        refine gv_lload (n := 9) (pc' := 79) (by decide +kernel) rfl rfl ?_
        refine gv_l2i (pc' := 80) (by decide +kernel) rfl ?_
        exact gv_iret .int (by decide +kernel) rfl rfl (by decide) (by decide) (gd_vE h)
      · replace h := gd_T c46 h
        refine gv_lload (n := 7) (pc' := 51) (by decide +kernel) rfl rfl ?_
        refine gv_l2i (pc' := 52) (by decide +kernel) rfl ?_
        exact gv_iret .int (by decide +kernel) rfl rfl (by decide) (by decide) (gd_vE h)
    · refine gd_jC (fun J4 => J4 = r0 → gv_V m_M_multiplied 1 true 26 [some (.int a), none, some (.int c), some (.long v2), none, none, none, none, none, none, none] [] σ (gv_is (.inl (some (.int r0))) σ)) h (fun  h => ?_) (fun J4 hJ4 h => ?_)
      · refine gv_iload_n (n := 2) (pc' := 27) (by decide +kernel) rfl rfl ?_
        refine gv_i2l (pc' := 28) (by decide +kernel) rfl ?_
        refine gv_goto (off := 9) (tgt := 37) (by decide +kernel) (by decide) ?_
        exact gd_ar (gl_s (gl_n (gl_n (gl_s (gl_n (gl_n (gl_n (gl_n (gl_n (gl_n (gl_n gl_z))))))))))) (fun _ => rfl) (hJ3 _ h)
      · refine gv_if_eq (off := 8) (tgt := 26) (pc' := 21) (by decide +kernel) (by decide) rfl (fun c18 => ?_) (fun c18 => ?_)
        · replace h := gd_T c18 h
          exact gd_ar (gl_s (gl_n (gl_s (gl_s (gl_n (gl_n (gl_n (gl_n (gl_n (gl_n (gl_n gl_z))))))))))) (fun _ => rfl) (hJ4  h)
        · replace h := gd_F c18 h
          refine gv_iload_n (n := 0) (pc' := 22) (by decide +kernel) rfl rfl ?_
          refine gv_iconst (n := 1) (v := 1) (pc' := 23) (by decide +kernel) (by decide) rfl ?_
          refine gv_icmp_ne (off := 8) (tgt := 31) (pc' := 26) (by decide +kernel) (by decide) rfl (fun c23 => ?_) (fun c23 => ?_)
          · replace h := gd_F c23 h
            refine gv_iload_n (n := 2) (pc' := 32) (by decide +kernel) rfl rfl ?_
            refine gv_i2l (pc' := 33) (by decide +kernel) rfl ?_
            refine gv_ldc2 (v := 4294967295) (pc' := 36) (by decide +kernel) cn_9_112 rfl ?_
            refine gv_land (pc' := 37) (by decide +kernel) rfl ?_
            exact gd_ar (gl_s (gl_n (gl_n (gl_s (gl_n (gl_n (gl_n (gl_n (gl_n (gl_n (gl_n gl_z))))))))))) (fun _ => rfl) (hJ3 _ h)
          · replace h := gd_T c23 h
            exact gd_ar (gl_s (gl_n (gl_s (gl_s (gl_n (gl_n (gl_n (gl_n (gl_n (gl_n (gl_n gl_z))))))))))) (fun _ => rfl) (hJ4  h)
  · refine gv_icmp_ne (off := 12) (tgt := 14) (pc' := 5) (by decide +kernel) (by decide) rfl (fun c2 => ?_) (fun c2 => ?_)
    · replace h := gd_tF c2 h
      refine gv_iload_n (n := 1) (pc' := 15) (by decide +kernel) rfl rfl ?_
      refine gv_i2l (pc' := 16) (by decide +kernel) rfl ?_
      exact gd_ar (gl_s (gl_n (gl_s (gl_n (gl_n (gl_n (gl_n (gl_n (gl_n (gl_n (gl_n gl_z))))))))))) (fun _ => rfl) (hJ1 _ h)
    · replace h := gd_tT c2 h
      refine gv_iload_n (n := 1) (pc' := 6) (by decide +kernel) rfl rfl ?_
      refine gv_i2l (pc' := 7) (by decide +kernel) rfl ?_
      refine gv_ldc2 (v := 4294967295) (pc' := 10) (by decide +kernel) cn_9_112 rfl ?_
      refine gv_land (pc' := 11) (by decide +kernel) rfl ?_
      refine gv_goto (off := 5) (tgt := 16) (by decide +kernel) (by decide) ?_
      exact gd_ar (gl_s (gl_n (gl_s (gl_n (gl_n (gl_n (gl_n (gl_n (gl_n (gl_n (gl_n gl_z))))))))))) (fun _ => rfl) (hJ1 _ h)
