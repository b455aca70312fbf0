def F_Cut_markIfCut (a : Int32) (σ : gS) : gR :=
 gd_g (gd_in a 1040) <|
 gd_j (α := Int32 → gR) (fun (v2 : Int32) =>
  gd_g (gd_in (((2 : Int32) * a) + (1 : Int32)) 2080) <|
  gd_t (α := Int32) (if (gA σ 35 (((2 : Int32) * a) + (1 : Int32)).toNatClampNeg) = (-1) then
    0
   else
    1) fun v4 =>
  if v2 = 0 then
   some (.inl none, σ)
  else
   if v4 = 0 then
    gd_g (gd_in a 1040) <|
    if (gA σ 34 a.toNatClampNeg) = (-1) then
     some (.inl none, σ)
    else
     gd_g (gd_in a 1040) <|
     gd_g (gd_in a 1040) <|
     gd_s (gs_A σ 27 a.toNatClampNeg ((gA σ 27 a.toNatClampNeg) ||| (8 : Int32))) fun s5 =>
     gd_s (gs_I s5 33 8 ((gI s5 33 8) + (1 : Int32))) fun s6 =>
     some (.inl none, s6)
   else
    some (.inl none, σ)) fun J1 =>
 if (gA σ 3 a.toNatClampNeg) = 3 then
  J1 1
 else
  gd_g (gd_in ((2 : Int32) * a) 2080) <|
  if (gA σ 35 ((2 : Int32) * a).toNatClampNeg) = (-1) then
   J1 0
  else
   J1 1
set_option maxRecDepth 20000 in
theorem X_Cut_markIfCut (a : Int32) (σ : gS) (r0 : gQ × gS) (h : F_Cut_markIfCut a σ = some r0) : gv_K m_Cut_markIfCut [.ref 33, .int a] σ (gv_is r0.1 r0.2) := by
  unfold F_Cut_markIfCut at h
  show gv_V m_Cut_markIfCut 1 true 0 [some (.ref 33), some (.int a), none, none] [] σ (gv_is r0.1 r0.2)
  refine gv_aload_n (n := 0) (pc' := 1) (by decide +kernel) rfl rfl ?_
  refine gv_getr lk_7_32 (by decide +kernel) rfl rfl (pc' := 4) rfl ?_
  refine gv_getr lk_7_57 (by decide +kernel) rfl rfl (pc' := 7) rfl ?_
  refine gv_iload_n (n := 1) (pc' := 8) (by decide +kernel) rfl rfl ?_
  obtain ⟨g8, h⟩ := gd_gE h
  refine gj_iald _ (pc' := 9) (by decide +kernel) rfl (gd_inv g8) rfl rfl ?_
  refine gv_iconst (n := 3) (v := 3) (pc' := 10) (by decide +kernel) (by decide) rfl ?_
  refine gd_jC (fun J1 => ∀ (v2 : Int32), J1 v2 = some r0 → gv_V m_Cut_markIfCut 1 true 30 [some (.ref 33), some (.int a), none, none] [.int v2] σ (gv_is r0.1 r0.2)) h (fun v2 h => ?_) (fun J1 hJ1 h => ?_)
  · refine gv_istore_n (n := 2) (pc' := 31) (by decide +kernel) (by decide) rfl ?_
    refine gv_aload_n (n := 0) (pc' := 32) (by decide +kernel) rfl rfl ?_
    refine gv_getr lk_7_15 (by decide +kernel) rfl rfl (pc' := 35) rfl ?_
    refine gv_iconst (n := 2) (v := 2) (pc' := 36) (by decide +kernel) (by decide) rfl ?_
    refine gv_iload_n (n := 1) (pc' := 37) (by decide +kernel) rfl rfl ?_
    refine gv_imul (pc' := 38) (by decide +kernel) rfl ?_
    refine gv_iconst (n := 1) (v := 1) (pc' := 39) (by decide +kernel) (by decide) rfl ?_
    refine gv_iadd (pc' := 40) (by decide +kernel) rfl ?_
    obtain ⟨g40, h⟩ := gd_gE h
    refine gj_iald _ (pc' := 41) (by decide +kernel) rfl (gd_inv g40) rfl rfl ?_
    refine gv_iconst (n := (-1)) (v := (-1)) (pc' := 42) (by decide +kernel) (by decide) rfl ?_
    refine gd_tC (fun (v4 : Int32) => gv_V m_Cut_markIfCut 1 true 50 [some (.ref 33), some (.int a), some (.int v2), none] [.int v4] σ (gv_is r0.1 r0.2)) h (fun v4 h => ?_) (fun KJ3 hJ3 h => ?_)
    · refine gv_istore_n (n := 3) (pc' := 51) (by decide +kernel) (by decide) rfl ?_
      refine gv_iload_n (n := 2) (pc' := 52) (by decide +kernel) rfl rfl ?_
      refine gv_if_eq (off := 41) (tgt := 93) (pc' := 55) (by decide +kernel) (by decide) rfl (fun c52 => ?_) (fun c52 => ?_)
      · replace h := gd_T c52 h
        exact gv_ret (by decide +kernel) rfl (by decide) (by decide) (gd_rE h)
      · replace h := gd_F c52 h
        refine gv_iload_n (n := 3) (pc' := 56) (by decide +kernel) rfl rfl ?_
        refine gv_if_ne (off := 37) (tgt := 93) (pc' := 59) (by decide +kernel) (by decide) rfl (fun c56 => ?_) (fun c56 => ?_)
        · replace h := gd_F c56 h
          exact gv_ret (by decide +kernel) rfl (by decide) (by decide) (gd_rE h)
        · replace h := gd_T c56 h
          refine gv_aload_n (n := 0) (pc' := 60) (by decide +kernel) rfl rfl ?_
          refine gv_getr lk_7_9 (by decide +kernel) rfl rfl (pc' := 63) rfl ?_
          refine gv_iload_n (n := 1) (pc' := 64) (by decide +kernel) rfl rfl ?_
          obtain ⟨g64, h⟩ := gd_gE h
          refine gj_iald _ (pc' := 65) (by decide +kernel) rfl (gd_inv g64) rfl rfl ?_
          refine gv_iconst (n := (-1)) (v := (-1)) (pc' := 66) (by decide +kernel) (by decide) rfl ?_
          refine gv_icmp_eq (off := 27) (tgt := 93) (pc' := 69) (by decide +kernel) (by decide) rfl (fun c66 => ?_) (fun c66 => ?_)
          · replace h := gd_T c66 h
            exact gv_ret (by decide +kernel) rfl (by decide) (by decide) (gd_rE h)
          · replace h := gd_F c66 h
            refine gv_aload_n (n := 0) (pc' := 70) (by decide +kernel) rfl rfl ?_
            refine gv_getr lk_7_40 (by decide +kernel) rfl rfl (pc' := 73) rfl ?_
            refine gv_getr lk_7_116 (by decide +kernel) rfl rfl (pc' := 76) rfl ?_
            refine gv_iload_n (n := 1) (pc' := 77) (by decide +kernel) rfl rfl ?_
            refine gv_dup2_11 (pc' := 78) (by decide +kernel) rfl rfl rfl ?_
            obtain ⟨g78, h⟩ := gd_gE h
            refine gj_iald _ (pc' := 79) (by decide +kernel) rfl (gd_inv g78) rfl rfl ?_
            refine gv_bipush (n := 8) (v := 8) (pc' := 81) (by decide +kernel) (by decide) rfl ?_
            refine gv_ior (pc' := 82) (by decide +kernel) rfl ?_
            obtain ⟨g82, h⟩ := gd_gE h
            refine gd_iast (pc' := 83) (by decide +kernel) rfl (gd_inv g82) rfl h (fun s5 h => ?_)
            refine gv_aload_n (n := 0) (pc' := 84) (by decide +kernel) rfl rfl ?_
            refine gv_dup (pc' := 85) (by decide +kernel) rfl rfl ?_
            refine gv_getj lk_7_29 (by decide +kernel) rfl rfl (pc' := 88) rfl ?_
            refine gv_iconst (n := 1) (v := 1) (pc' := 89) (by decide +kernel) (by decide) rfl ?_
            refine gv_iadd (pc' := 90) (by decide +kernel) rfl ?_
            refine gd_puti lp_7_29 (by decide +kernel) rfl rfl rfl rfl (pc' := 93) rfl h (fun s6 h => ?_)
            exact gv_ret (by decide +kernel) rfl (by decide) (by decide) (gd_rE h)
    · refine gv_icmp_eq (off := 7) (tgt := 49) (pc' := 45) (by decide +kernel) (by decide) rfl (fun c42 => ?_) (fun c42 => ?_)
      · replace h := gd_tT c42 h
        refine gv_iconst (n := 0) (v := 0) (pc' := 50) (by decide +kernel) (by decide) rfl ?_
        exact gd_ar (gl_s (gl_s (gl_s (gl_n gl_z)))) (fun _ => rfl) (hJ3 _ h)
      · replace h := gd_tF c42 h
        refine gv_iconst (n := 1) (v := 1) (pc' := 46) (by decide +kernel) (by decide) rfl ?_
        refine gv_goto (off := 4) (tgt := 50) (by decide +kernel) (by decide) ?_
        exact gd_ar (gl_s (gl_s (gl_s (gl_n gl_z)))) (fun _ => rfl) (hJ3 _ h)
  · refine gv_icmp_eq (off := 15) (tgt := 25) (pc' := 13) (by decide +kernel) (by decide) rfl (fun c10 => ?_) (fun c10 => ?_)
    · replace h := gd_T c10 h
      refine gv_iconst (n := 1) (v := 1) (pc' := 26) (by decide +kernel) (by decide) rfl ?_
      refine gv_goto (off := 4) (tgt := 30) (by decide +kernel) (by decide) ?_
      exact gd_ar (gl_s (gl_s (gl_n (gl_n gl_z)))) (fun _ => rfl) (hJ1 _ h)
    · replace h := gd_F c10 h
      refine gv_aload_n (n := 0) (pc' := 14) (by decide +kernel) rfl rfl ?_
      refine gv_getr lk_7_15 (by decide +kernel) rfl rfl (pc' := 17) rfl ?_
      refine gv_iconst (n := 2) (v := 2) (pc' := 18) (by decide +kernel) (by decide) rfl ?_
      refine gv_iload_n (n := 1) (pc' := 19) (by decide +kernel) rfl rfl ?_
      refine gv_imul (pc' := 20) (by decide +kernel) rfl ?_
      obtain ⟨g20, h⟩ := gd_gE h
      refine gj_iald _ (pc' := 21) (by decide +kernel) rfl (gd_inv g20) rfl rfl ?_
      refine gv_iconst (n := (-1)) (v := (-1)) (pc' := 22) (by decide +kernel) (by decide) rfl ?_
      refine gv_icmp_eq (off := 7) (tgt := 29) (pc' := 25) (by decide +kernel) (by decide) rfl (fun c22 => ?_) (fun c22 => ?_)
      · replace h := gd_T c22 h
        refine gv_iconst (n := 0) (v := 0) (pc' := 30) (by decide +kernel) (by decide) rfl ?_
        exact gd_ar (gl_s (gl_s (gl_n (gl_n gl_z)))) (fun _ => rfl) (hJ1 _ h)
      · replace h := gd_F c22 h
        refine gv_iconst (n := 1) (v := 1) (pc' := 26) (by decide +kernel) (by decide) rfl ?_
        refine gv_goto (off := 4) (tgt := 30) (by decide +kernel) (by decide) ?_
        exact gd_ar (gl_s (gl_s (gl_n (gl_n gl_z)))) (fun _ => rfl) (hJ1 _ h)
def B_Cut_find_69 (ag13 : Int32 → gS → gR) (n_1_11 : Int32) (s12 : gS) : gR :=
 if (gI s12 26 9) ≤ n_1_11 then
  some (.inl none, s12)
 else
  gd_g (gd_in n_1_11 1040) <|
  gd_0 (F_Cut_markIfCut (gA s12 29 n_1_11.toNatClampNeg) s12) fun s14 =>
  ag13 (n_1_11 + 1) s14
set_option maxRecDepth 20000 in
theorem L_Cut_find_69 (r0 : gQ × gS) (n : Nat) : ∀ (n_1_11 : Int32) (s12 : gS), gd_lp (fun _ _ => none) (B_Cut_find_69) n n_1_11 s12 = some r0 → gv_V m_Cut_find 1 false 69 [some (.ref 33), some (.int n_1_11), none] [] s12 (gv_is r0.1 r0.2) := by
  refine gd_lpC (fun (ag13 : Int32 → gS → gR) => ∀ (n_1_11 : Int32) (s12 : gS), ag13 n_1_11 s12 = some r0 → gv_V m_Cut_find 1 false 69 [some (.ref 33), some (.int n_1_11), none] [] s12 (gv_is r0.1 r0.2)) (fun n_1_11 s12 h => by cases h) (fun ag13 ih n_1_11 s12 h => ?_) n
  unfold B_Cut_find_69 at h
  refine gv_iload_n (n := 1) (pc' := 70) (by decide +kernel) rfl rfl ?_
  refine gv_aload_n (n := 0) (pc' := 71) (by decide +kernel) rfl rfl ?_
  refine gv_getr lk_7_40 (by decide +kernel) rfl rfl (pc' := 74) rfl ?_
  refine gv_getj lk_7_52 (by decide +kernel) rfl rfl (pc' := 77) rfl ?_
  refine gv_icmp_ge (off := 22) (tgt := 99) (pc' := 80) (by decide +kernel) (by decide) rfl (fun c77 => ?_) (fun c77 => ?_)
  · replace h := gd_T c77 h
    exact gv_ret (by decide +kernel) rfl (by decide) (by decide) (gd_rE h)
  · replace h := gd_F c77 h
    refine gv_aload_n (n := 0) (pc' := 81) (by decide +kernel) rfl rfl ?_
    refine gv_aload_n (n := 0) (pc' := 82) (by decide +kernel) rfl rfl ?_
    refine gv_getr lk_7_40 (by decide +kernel) rfl rfl (pc' := 85) rfl ?_
    refine gv_getr lk_7_55 (by decide +kernel) rfl rfl (pc' := 88) rfl ?_
    refine gv_iload_n (n := 1) (pc' := 89) (by decide +kernel) rfl rfl ?_
    obtain ⟨g89, h⟩ := gd_gE h
    refine gj_iald _ (pc' := 90) (by decide +kernel) rfl (gd_inv g89) rfl rfl ?_
    refine gd_cv0 (w' := false) (pc' := 93) (X_Cut_markIfCut _ _) h md_Cut_markIfCut vd_Cut_markIfCut (Or.inl ml_7_66) (by decide +kernel) (by decide) rfl rfl rfl (Nat.le_of_ble_eq_true rfl) (Nat.le_of_ble_eq_true rfl) (by decide) rfl (fun z => by cases z) (by decide) rfl (fun s14 h => ?_)
    refine gv_iincc (i := 1) (n := 1) (c := 1) (pc' := 96) (by decide +kernel) rfl (by decide) (by decide) rfl ?_
    refine gv_goto (off := -27) (tgt := 69) (by decide +kernel) (by decide) ?_
    exact gd_ar (gl_s (gl_s (gl_n gl_z))) (fun z => by cases z) (ih _ _ h)
def B_Cut_find_22 (k6 : gS → gR) (ag5 : Int32 → gS → gR) (n_1_3 : Int32) (s4 : gS) : gR :=
 if (gI s4 26 9) ≤ n_1_3 then
  k6 s4
 else
  gd_g (gd_in n_1_3 1040) <|
  gd_g (gd_in (gA s4 29 n_1_3.toNatClampNeg) 1040) <|
  gd_j (α := gS → gR) (fun (s9 : gS) =>
   ag5 (n_1_3 + 1) s9) fun J7 =>
  if (gA s4 3 (gA s4 29 n_1_3.toNatClampNeg).toNatClampNeg) = 3 then
   gd_0 (F_Cut_addPathFrom (gA s4 29 n_1_3.toNatClampNeg) s4) fun s8 =>
   J7 s8
  else
   J7 s4
set_option maxRecDepth 20000 in
theorem L_Cut_find_22 (k6 : gS → gR) (r0 : gQ × gS) (hk6 : ∀ (s10 : gS), k6 s10 = some r0 → gv_V m_Cut_find 1 false 67 [some (.ref 33), none, none] [] s10 (gv_is r0.1 r0.2)) (n : Nat) : ∀ (n_1_3 : Int32) (s4 : gS), gd_lp (fun _ _ => none) (B_Cut_find_22 k6) n n_1_3 s4 = some r0 → gv_V m_Cut_find 1 false 22 [some (.ref 33), some (.int n_1_3), none] [] s4 (gv_is r0.1 r0.2) := by
  refine gd_lpC (fun (ag5 : Int32 → gS → gR) => ∀ (n_1_3 : Int32) (s4 : gS), ag5 n_1_3 s4 = some r0 → gv_V m_Cut_find 1 false 22 [some (.ref 33), some (.int n_1_3), none] [] s4 (gv_is r0.1 r0.2)) (fun n_1_3 s4 h => by cases h) (fun ag5 ih n_1_3 s4 h => ?_) n
  unfold B_Cut_find_22 at h
  refine gv_iload_n (n := 1) (pc' := 23) (by decide +kernel) rfl rfl ?_
  refine gv_aload_n (n := 0) (pc' := 24) (by decide +kernel) rfl rfl ?_
  refine gv_getr lk_7_40 (by decide +kernel) rfl rfl (pc' := 27) rfl ?_
  refine gv_getj lk_7_52 (by decide +kernel) rfl rfl (pc' := 30) rfl ?_
  refine gv_icmp_ge (off := 37) (tgt := 67) (pc' := 33) (by decide +kernel) (by decide) rfl (fun c30 => ?_) (fun c30 => ?_)
  · replace h := gd_T c30 h
    exact gd_ar (gl_s (gl_n (gl_n gl_z))) (fun z => by cases z) (hk6 _ h)
  · replace h := gd_F c30 h
    refine gv_aload_n (n := 0) (pc' := 34) (by decide +kernel) rfl rfl ?_
    refine gv_getr lk_7_40 (by decide +kernel) rfl rfl (pc' := 37) rfl ?_
    refine gv_getr lk_7_55 (by decide +kernel) rfl rfl (pc' := 40) rfl ?_
    refine gv_iload_n (n := 1) (pc' := 41) (by decide +kernel) rfl rfl ?_
    obtain ⟨g41, h⟩ := gd_gE h
    refine gj_iald _ (pc' := 42) (by decide +kernel) rfl (gd_inv g41) rfl rfl ?_
    refine gv_istore_n (n := 2) (pc' := 43) (by decide +kernel) (by decide) rfl ?_
    refine gv_aload_n (n := 0) (pc' := 44) (by decide +kernel) rfl rfl ?_
    refine gv_getr lk_7_32 (by decide +kernel) rfl rfl (pc' := 47) rfl ?_
    refine gv_getr lk_7_57 (by decide +kernel) rfl rfl (pc' := 50) rfl ?_
    refine gv_iload_n (n := 2) (pc' := 51) (by decide +kernel) rfl rfl ?_
    obtain ⟨g51, h⟩ := gd_gE h
    refine gj_iald _ (pc' := 52) (by decide +kernel) rfl (gd_inv g51) rfl rfl ?_
    refine gv_iconst (n := 3) (v := 3) (pc' := 53) (by decide +kernel) (by decide) rfl ?_
    refine gd_jC (fun J7 => ∀ (s9 : gS), J7 s9 = some r0 → gv_V m_Cut_find 1 false 61 [some (.ref 33), some (.int n_1_3), none] [] s9 (gv_is r0.1 r0.2)) h (fun s9 h => ?_) (fun J7 hJ7 h => ?_)
    · refine gv_iincc (i := 1) (n := 1) (c := 1) (pc' := 64) (by decide +kernel) rfl (by decide) (by decide) rfl ?_
      refine gv_goto (off := -42) (tgt := 22) (by decide +kernel) (by decide) ?_
      exact gd_ar (gl_s (gl_s (gl_n gl_z))) (fun z => by cases z) (ih _ _ h)
    · refine gv_icmp_ne (off := 8) (tgt := 61) (pc' := 56) (by decide +kernel) (by decide) rfl (fun c53 => ?_) (fun c53 => ?_)
      · replace h := gd_F c53 h
        exact gd_ar (gl_s (gl_s (gl_n gl_z))) (fun z => by cases z) (hJ7 _ h)
      · replace h := gd_T c53 h
        refine gv_aload_n (n := 0) (pc' := 57) (by decide +kernel) rfl rfl ?_
        refine gv_iload_n (n := 2) (pc' := 58) (by decide +kernel) rfl rfl ?_
        refine gd_cv0 (w' := false) (pc' := 61) (X_Cut_addPathFrom _ _) h md_Cut_addPathFrom vd_Cut_addPathFrom (Or.inl ml_7_62) (by decide +kernel) (by decide) rfl rfl rfl (Nat.le_of_ble_eq_true rfl) (Nat.le_of_ble_eq_true rfl) (by decide) rfl (fun z => by cases z) (by decide) rfl (fun s8 h => ?_)
        exact gd_ar (gl_s (gl_s (gl_n gl_z))) (fun z => by cases z) (hJ7 _ h)
def F_Cut_find (σ : gS) : gR :=
 gd_s (gs_I σ 33 8 0) fun s1 =>
 if (gI s1 26 10) = 0 then
  some (.inl none, s1)
 else
  gd_0 (F_Cut_prepare s1) fun s2 =>
  gd_j (α := gS → gR) (fun (s10 : gS) =>
   gd_lp (fun _ _ => none) (B_Cut_find_69) gd_N 0 s10) fun k6 =>
  gd_lp (fun _ _ => none) (B_Cut_find_22 k6) gd_N 0 s2
set_option maxRecDepth 20000 in
theorem X_Cut_find (σ : gS) (r0 : gQ × gS) (h : F_Cut_find σ = some r0) : gv_K m_Cut_find [.ref 33] σ (gv_is r0.1 r0.2) := by
  unfold F_Cut_find at h
  show gv_V m_Cut_find 1 true 0 [some (.ref 33), none, none] [] σ (gv_is r0.1 r0.2)
  refine gv_aload_n (n := 0) (pc' := 1) (by decide +kernel) rfl rfl ?_
  refine gv_iconst (n := 0) (v := 0) (pc' := 2) (by decide +kernel) (by decide) rfl ?_
  refine gd_puti lp_7_29 (by decide +kernel) rfl rfl rfl rfl (pc' := 5) rfl h (fun s1 h => ?_)
  refine gv_aload_n (n := 0) (pc' := 6) (by decide +kernel) rfl rfl ?_
  refine gv_getr lk_7_40 (by decide +kernel) rfl rfl (pc' := 9) rfl ?_
  refine gv_getj lk_7_44 (by decide +kernel) rfl rfl (pc' := 12) rfl ?_
  refine gv_if_ne (off := 4) (tgt := 16) (pc' := 15) (by decide +kernel) (by decide) rfl (fun c12 => ?_) (fun c12 => ?_)
  · replace h := gd_F c12 h
    refine gv_aload_n (n := 0) (pc' := 17) (by decide +kernel) rfl rfl ?_
    refine gd_cv0 (w' := false) (pc' := 20) (X_Cut_prepare _) h md_Cut_prepare vd_Cut_prepare (Or.inl ml_7_49) (by decide +kernel) (by decide) rfl rfl rfl (Nat.le_of_ble_eq_true rfl) (Nat.le_of_ble_eq_true rfl) (by decide) rfl (fun z => by cases z) (by decide) rfl (fun s2 h => ?_)
    refine gv_iconst (n := 0) (v := 0) (pc' := 21) (by decide +kernel) (by decide) rfl ?_
    refine gv_istore_n (n := 1) (pc' := 22) (by decide +kernel) (by decide) rfl ?_
    refine gd_jC (fun k6 => ∀ (s10 : gS), k6 s10 = some r0 → gv_V m_Cut_find 1 false 67 [some (.ref 33), none, none] [] s10 (gv_is r0.1 r0.2)) h (fun s10 h => ?_) (fun k6 hk6 h => ?_)
    · refine gv_iconst (n := 0) (v := 0) (pc' := 68) (by decide +kernel) (by decide) rfl ?_
      refine gv_istore_n (n := 1) (pc' := 69) (by decide +kernel) (by decide) rfl ?_
      exact gd_ar (gl_s (gl_s (gl_n gl_z))) (fun z => by cases z) (L_Cut_find_69 r0 _ _ _ h)
    exact gd_ar (gl_s (gl_s (gl_n gl_z))) (fun z => by cases z) (L_Cut_find_22 _ r0 hk6 _ _ _ h)
  · replace h := gd_T c12 h
    exact gv_ret (by decide +kernel) rfl (by decide) (by decide) (gd_rE h)
def F_G_study (σ : gS) : gR :=
 if (gI σ 0 10) = 0 then
  gd_0 (F_Taint_spread σ) fun s1 =>
  gd_0 (F_Cut_find s1) fun s2 =>
  gd_s (gs_I s2 0 10 1) fun s3 =>
  some (.inl none, s3)
 else
  some (.inl none, σ)
set_option maxRecDepth 20000 in
theorem X_G_study (σ : gS) (r0 : gQ × gS) (h : F_G_study σ = some r0) : gv_K m_G_study [.ref 0] σ (gv_is r0.1 r0.2) := by
  unfold F_G_study at h
  show gv_V m_G_study 1 true 0 [some (.ref 0)] [] σ (gv_is r0.1 r0.2)
  refine gv_aload_n (n := 0) (pc' := 1) (by decide +kernel) rfl rfl ?_
  refine gv_getj lk_0_74 (by decide +kernel) rfl rfl (pc' := 4) rfl ?_
  refine gv_if_eq (off := 4) (tgt := 8) (pc' := 7) (by decide +kernel) (by decide) rfl (fun c4 => ?_) (fun c4 => ?_)
  · replace h := gd_T c4 h
    refine gv_aload_n (n := 0) (pc' := 9) (by decide +kernel) rfl rfl ?_
    refine gv_getr lk_0_41 (by decide +kernel) rfl rfl (pc' := 12) rfl ?_
    refine gd_cv0 (w' := false) (pc' := 15) (X_Taint_spread _) h md_Taint_spread vd_Taint_spread (Or.inl ml_0_212) (by decide +kernel) (by decide) rfl rfl rfl (Nat.le_of_ble_eq_true rfl) (Nat.le_of_ble_eq_true rfl) (by decide) rfl (fun z => by cases z) (by decide) rfl (fun s1 h => ?_)
    refine gv_aload_n (n := 0) (pc' := 16) (by decide +kernel) rfl rfl ?_
    refine gv_getr lk_0_50 (by decide +kernel) rfl rfl (pc' := 19) rfl ?_
    refine gd_cv0 (w' := false) (pc' := 22) (X_Cut_find _) h md_Cut_find vd_Cut_find (Or.inl ml_0_215) (by decide +kernel) (by decide) rfl rfl rfl (Nat.le_of_ble_eq_true rfl) (Nat.le_of_ble_eq_true rfl) (by decide) rfl (fun z => by cases z) (by decide) rfl (fun s2 h => ?_)
    refine gv_aload_n (n := 0) (pc' := 23) (by decide +kernel) rfl rfl ?_
    refine gv_iconst (n := 1) (v := 1) (pc' := 24) (by decide +kernel) (by decide) rfl ?_
    refine gd_puti lp_0_74 (by decide +kernel) rfl rfl rfl rfl (pc' := 27) rfl h (fun s3 h => ?_)
    exact gv_ret (by decide +kernel) rfl (by decide) (by decide) (gd_rE h)
  · replace h := gd_F c4 h
    exact gv_ret (by decide +kernel) rfl (by decide) (by decide) (gd_rE h)
def F_G_check (σ : gS) : gR :=
 gd_q0 (R_G_needLoaded σ) σ <|
 gd_0 (F_G_study σ) fun s1 =>
 some (.inl (some (.int (gI s1 26 10))), s1)
set_option maxRecDepth 20000 in
theorem X_G_check (σ : gS) (r0 : gQ × gS) (h : F_G_check σ = some r0) : gv_K m_G_check [.ref 0] σ (gv_is r0.1 r0.2) := by
  unfold F_G_check at h
  show gv_V m_G_check 1 true 0 [some (.ref 0)] [] σ (gv_is r0.1 r0.2)
  refine gv_aload_n (n := 0) (pc' := 1) (by decide +kernel) rfl rfl ?_
  refine gd_dv0 (w' := true) (pc' := 4) (X_G_needLoaded _) h md_G_needLoaded vd_G_needLoaded (Or.inl ml_0_100) (by decide +kernel) (by decide) rfl rfl rfl (Nat.le_of_ble_eq_true rfl) (Nat.le_of_ble_eq_true rfl) (by decide) rfl (fun z => ⟨rfl, z⟩) (by decide) rfl (fun h => ?_)
  refine gv_aload_n (n := 0) (pc' := 5) (by decide +kernel) rfl rfl ?_
  refine gd_cv0 (w' := false) (pc' := 8) (X_G_study _) h md_G_study vd_G_study (Or.inl ml_0_154) (by decide +kernel) (by decide) rfl rfl rfl (Nat.le_of_ble_eq_true rfl) (Nat.le_of_ble_eq_true rfl) (by decide) rfl (fun z => by cases z) (by decide) rfl (fun s1 h => ?_)
  refine gv_aload_n (n := 0) (pc' := 9) (by decide +kernel) rfl rfl ?_
  refine gv_getr lk_0_41 (by decide +kernel) rfl rfl (pc' := 12) rfl ?_
  refine gv_getj lk_0_157 (by decide +kernel) rfl rfl (pc' := 15) rfl ?_
  exact gv_iret .int (by decide +kernel) rfl rfl (by decide) (by decide) (gd_rE h)
def R_Reach_has (a : Int32) (b : Int32) (σ : gS) : gP :=
 gd_g (gd_in ((a * (17 : Int32)) + (b >>> ((6 : Int32) &&& 31))) 17680) <|
 if (lg_cmp (((Int64.toUInt64 (gL σ 22 ((a * (17 : Int32)) + (b >>> ((6 : Int32) &&& 31))).toNatClampNeg) >>> ((Int32.toInt64 (b &&& (63 : Int32))).toUInt64 &&& Int64.toUInt64 63)).toInt64) &&& (1 : Int64)) (0 : Int64)) = 0 then
  some (.inl (some (.int 0)))
 else
  some (.inl (some (.int 1)))
set_option maxRecDepth 20000 in
theorem X_Reach_has (a : Int32) (b : Int32) (σ : gS) (r0 : gQ) (h : R_Reach_has a b σ = some r0) : gv_K m_Reach_has [.ref 21, .int a, .int b] σ (gv_is r0 σ) := by
  unfold R_Reach_has at h
  show gv_V m_Reach_has 1 true 0 [some (.ref 21), some (.int a), some (.int b)] [] σ (gv_is r0 σ)
  refine gv_aload_n (n := 0) (pc' := 1) (by decide +kernel) rfl rfl ?_
  refine gv_getr lk_5_9 (by decide +kernel) rfl rfl (pc' := 4) rfl ?_
  refine gv_iload_n (n := 1) (pc' := 5) (by decide +kernel) rfl rfl ?_
  refine gv_bipush (n := 17) (v := 17) (pc' := 7) (by decide +kernel) (by decide) rfl ?_
  refine gv_imul (pc' := 8) (by decide +kernel) rfl ?_
  refine gv_iload_n (n := 2) (pc' := 9) (by decide +kernel) rfl rfl ?_
  refine gv_bipush (n := 6) (v := 6) (pc' := 11) (by decide +kernel) (by decide) rfl ?_
  refine gv_ishr (pc' := 12) (by decide +kernel) rfl ?_
  refine gv_iadd (pc' := 13) (by decide +kernel) rfl ?_
  obtain ⟨g13, h⟩ := gd_gE h
  refine gj_lald _ (pc' := 14) (by decide +kernel) rfl (gd_inv g13) rfl rfl ?_
  refine gv_iload_n (n := 2) (pc' := 15) (by decide +kernel) rfl rfl ?_
  refine gv_bipush (n := 63) (v := 63) (pc' := 17) (by decide +kernel) (by decide) rfl ?_
  refine gv_iand (pc' := 18) (by decide +kernel) rfl ?_
  refine gv_lushr (pc' := 19) (by decide +kernel) rfl ?_
  refine gv_lconst (n := 1) (v := 1) (pc' := 20) (by decide +kernel) (by decide) rfl ?_
  refine gv_land (pc' := 21) (by decide +kernel) rfl ?_
  refine gv_lconst (n := 0) (v := 0) (pc' := 22) (by decide +kernel) (by decide) rfl ?_
  refine gv_lcmp (pc' := 23) (by decide +kernel) rfl ?_
  refine gv_if_eq (off := 7) (tgt := 30) (pc' := 26) (by decide +kernel) (by decide) rfl (fun c23 => ?_) (fun c23 => ?_)
  · replace h := gd_T c23 h
    refine gv_iconst (n := 0) (v := 0) (pc' := 31) (by decide +kernel) (by decide) rfl ?_
    exact gv_iret .boolean (by decide +kernel) rfl rfl (by decide) (by decide) (gd_pE h)
  · replace h := gd_F c23 h
    refine gv_iconst (n := 1) (v := 1) (pc' := 27) (by decide +kernel) (by decide) rfl ?_
    refine gv_goto (off := 4) (tgt := 31) (by decide +kernel) (by decide) ?_
    exact gv_iret .boolean (by decide +kernel) rfl rfl (by decide) (by decide) (gd_pE h)
def F_G_reaches (a : Int32) (b : Int32) (σ : gS) : gR :=
 gd_q0 (R_G_needLoaded σ) σ <|
 gd_q0 (R_G_needWord a σ) σ <|
 gd_q0 (R_G_needWord b σ) σ <|
 gd_0 (F_Reach_trace a σ) fun s1 =>
 gd_qi (R_Reach_has a b s1) s1 fun r2 =>
 gd_g (r2 = 0 ∨ r2 = 1) <|
 some (.inl (some (.int r2)), s1)
set_option maxRecDepth 20000 in
theorem X_G_reaches (a : Int32) (b : Int32) (σ : gS) (r0 : gQ × gS) (h : F_G_reaches a b σ = some r0) : gv_K m_G_reaches [.ref 0, .int a, .int b] σ (gv_is r0.1 r0.2) := by
  unfold F_G_reaches at h
  show gv_V m_G_reaches 1 true 0 [some (.ref 0), some (.int a), some (.int b)] [] σ (gv_is r0.1 r0.2)
  refine gv_aload_n (n := 0) (pc' := 1) (by decide +kernel) rfl rfl ?_
  refine gd_dv0 (w' := true) (pc' := 4) (X_G_needLoaded _) h md_G_needLoaded vd_G_needLoaded (Or.inl ml_0_100) (by decide +kernel) (by decide) rfl rfl rfl (Nat.le_of_ble_eq_true rfl) (Nat.le_of_ble_eq_true rfl) (by decide) rfl (fun z => ⟨rfl, z⟩) (by decide) rfl (fun h => ?_)
  refine gv_aload_n (n := 0) (pc' := 5) (by decide +kernel) rfl rfl ?_
  refine gv_iload_n (n := 1) (pc' := 6) (by decide +kernel) rfl rfl ?_
  refine gd_dv0 (w' := true) (pc' := 9) (X_G_needWord _ _) h md_G_needWord vd_G_needWord (Or.inl ml_0_103) (by decide +kernel) (by decide) rfl rfl rfl (Nat.le_of_ble_eq_true rfl) (Nat.le_of_ble_eq_true rfl) (by decide) rfl (fun z => ⟨rfl, z⟩) (by decide) rfl (fun h => ?_)
  refine gv_aload_n (n := 0) (pc' := 10) (by decide +kernel) rfl rfl ?_
  refine gv_iload_n (n := 2) (pc' := 11) (by decide +kernel) rfl rfl ?_
  refine gd_dv0 (w' := true) (pc' := 14) (X_G_needWord _ _) h md_G_needWord vd_G_needWord (Or.inl ml_0_103) (by decide +kernel) (by decide) rfl rfl rfl (Nat.le_of_ble_eq_true rfl) (Nat.le_of_ble_eq_true rfl) (by decide) rfl (fun z => ⟨rfl, z⟩) (by decide) rfl (fun h => ?_)
  refine gv_aload_n (n := 0) (pc' := 15) (by decide +kernel) rfl rfl ?_
  refine gv_getr lk_0_32 (by decide +kernel) rfl rfl (pc' := 18) rfl ?_
  refine gv_iload_n (n := 1) (pc' := 19) (by decide +kernel) rfl rfl ?_
  refine gd_cv0 (w' := false) (pc' := 22) (X_Reach_trace _ _) h md_Reach_trace vd_Reach_trace (Or.inl ml_0_160) (by decide +kernel) (by decide) rfl rfl rfl (Nat.le_of_ble_eq_true rfl) (Nat.le_of_ble_eq_true rfl) (by decide) rfl (fun z => by cases z) (by decide) rfl (fun s1 h => ?_)
  refine gv_aload_n (n := 0) (pc' := 23) (by decide +kernel) rfl rfl ?_
  refine gv_getr lk_0_32 (by decide +kernel) rfl rfl (pc' := 26) rfl ?_
  refine gv_iload_n (n := 1) (pc' := 27) (by decide +kernel) rfl rfl ?_
  refine gv_iload_n (n := 2) (pc' := 28) (by decide +kernel) rfl rfl ?_
  refine gd_dvi (w' := false) (pc' := 31) (X_Reach_has _ _ _) h md_Reach_has vd_Reach_has (Or.inl ml_0_163) (by decide +kernel) (by decide) rfl rfl rfl (Nat.le_of_ble_eq_true rfl) (Nat.le_of_ble_eq_true rfl) (by decide) rfl (fun z => by cases z) (by decide) rfl (fun r2 h => ?_)
  obtain ⟨g31, h⟩ := gd_gE h
  exact gv_iret .boolean (by decide +kernel) rfl (gd_nb g31) (by decide) (by decide) (gd_rE h)
def F_G_mark (a : Int32) (σ : gS) : gR :=
 gd_q0 (R_G_needLoaded σ) σ <|
 gd_q0 (R_G_needWord a σ) σ <|
 gd_0 (F_G_study σ) fun s1 =>
 gd_g (gd_in a 1040) <|
 some (.inl (some (.int (gA s1 27 a.toNatClampNeg))), s1)
set_option maxRecDepth 20000 in
theorem X_G_mark (a : Int32) (σ : gS) (r0 : gQ × gS) (h : F_G_mark a σ = some r0) : gv_K m_G_mark [.ref 0, .int a] σ (gv_is r0.1 r0.2) := by
  unfold F_G_mark at h
  show gv_V m_G_mark 1 true 0 [some (.ref 0), some (.int a)] [] σ (gv_is r0.1 r0.2)
  refine gv_aload_n (n := 0) (pc' := 1) (by decide +kernel) rfl rfl ?_
  refine gd_dv0 (w' := true) (pc' := 4) (X_G_needLoaded _) h md_G_needLoaded vd_G_needLoaded (Or.inl ml_0_100) (by decide +kernel) (by decide) rfl rfl rfl (Nat.le_of_ble_eq_true rfl) (Nat.le_of_ble_eq_true rfl) (by decide) rfl (fun z => ⟨rfl, z⟩) (by decide) rfl (fun h => ?_)
  refine gv_aload_n (n := 0) (pc' := 5) (by decide +kernel) rfl rfl ?_
  refine gv_iload_n (n := 1) (pc' := 6) (by decide +kernel) rfl rfl ?_
  refine gd_dv0 (w' := true) (pc' := 9) (X_G_needWord _ _) h md_G_needWord vd_G_needWord (Or.inl ml_0_103) (by decide +kernel) (by decide) rfl rfl rfl (Nat.le_of_ble_eq_true rfl) (Nat.le_of_ble_eq_true rfl) (by decide) rfl (fun z => ⟨rfl, z⟩) (by decide) rfl (fun h => ?_)
  refine gv_aload_n (n := 0) (pc' := 10) (by decide +kernel) rfl rfl ?_
  refine gd_cv0 (w' := false) (pc' := 13) (X_G_study _) h md_G_study vd_G_study (Or.inl ml_0_154) (by decide +kernel) (by decide) rfl rfl rfl (Nat.le_of_ble_eq_true rfl) (Nat.le_of_ble_eq_true rfl) (by decide) rfl (fun z => by cases z) (by decide) rfl (fun s1 h => ?_)
  refine gv_aload_n (n := 0) (pc' := 14) (by decide +kernel) rfl rfl ?_
  refine gv_getr lk_0_41 (by decide +kernel) rfl rfl (pc' := 17) rfl ?_
  refine gv_getr lk_0_167 (by decide +kernel) rfl rfl (pc' := 20) rfl ?_
  refine gv_iload_n (n := 1) (pc' := 21) (by decide +kernel) rfl rfl ?_
  obtain ⟨g21, h⟩ := gd_gE h
  refine gj_iald _ (pc' := 22) (by decide +kernel) rfl (gd_inv g21) rfl rfl ?_
  exact gv_iret .int (by decide +kernel) rfl rfl (by decide) (by decide) (gd_rE h)
def F_G_cut (σ : gS) : gR :=
 gd_q0 (R_G_needLoaded σ) σ <|
 gd_0 (F_G_study σ) fun s1 =>
 some (.inl (some (.int (gI s1 33 8))), s1)
set_option maxRecDepth 20000 in
theorem X_G_cut (σ : gS) (r0 : gQ × gS) (h : F_G_cut σ = some r0) : gv_K m_G_cut [.ref 0] σ (gv_is r0.1 r0.2) := by
  unfold F_G_cut at h
  show gv_V m_G_cut 1 true 0 [some (.ref 0)] [] σ (gv_is r0.1 r0.2)
  refine gv_aload_n (n := 0) (pc' := 1) (by decide +kernel) rfl rfl ?_
  refine gd_dv0 (w' := true) (pc' := 4) (X_G_needLoaded _) h md_G_needLoaded vd_G_needLoaded (Or.inl ml_0_100) (by decide +kernel) (by decide) rfl rfl rfl (Nat.le_of_ble_eq_true rfl) (Nat.le_of_ble_eq_true rfl) (by decide) rfl (fun z => ⟨rfl, z⟩) (by decide) rfl (fun h => ?_)
  refine gv_aload_n (n := 0) (pc' := 5) (by decide +kernel) rfl rfl ?_
  refine gd_cv0 (w' := false) (pc' := 8) (X_G_study _) h md_G_study vd_G_study (Or.inl ml_0_154) (by decide +kernel) (by decide) rfl rfl rfl (Nat.le_of_ble_eq_true rfl) (Nat.le_of_ble_eq_true rfl) (by decide) rfl (fun z => by cases z) (by decide) rfl (fun s1 h => ?_)
  refine gv_aload_n (n := 0) (pc' := 9) (by decide +kernel) rfl rfl ?_
  refine gv_getr lk_0_50 (by decide +kernel) rfl rfl (pc' := 12) rfl ?_
  refine gv_getj lk_0_170 (by decide +kernel) rfl rfl (pc' := 15) rfl ?_
  exact gv_iret .int (by decide +kernel) rfl rfl (by decide) (by decide) (gd_rE h)
def R_Rewriter_isCut (a : Int32) (σ : gS) : gP :=
 gd_g (gd_in a 1040) <|
 if ((gA σ 27 a.toNatClampNeg) &&& (8 : Int32)) = 0 then
  some (.inl (some (.int 0)))
 else
  some (.inl (some (.int 1)))
set_option maxRecDepth 20000 in
theorem X_Rewriter_isCut (a : Int32) (σ : gS) (r0 : gQ) (h : R_Rewriter_isCut a σ = some r0) : gv_K m_Rewriter_isCut [.ref 38, .int a] σ (gv_is r0 σ) := by
  unfold R_Rewriter_isCut at h
  show gv_V m_Rewriter_isCut 1 true 0 [some (.ref 38), some (.int a)] [] σ (gv_is r0 σ)
  refine gv_aload_n (n := 0) (pc' := 1) (by decide +kernel) rfl rfl ?_
  refine gv_getr lk_8_22 (by decide +kernel) rfl rfl (pc' := 4) rfl ?_
  refine gv_getr lk_8_53 (by decide +kernel) rfl rfl (pc' := 7) rfl ?_
  refine gv_iload_n (n := 1) (pc' := 8) (by decide +kernel) rfl rfl ?_
  obtain ⟨g8, h⟩ := gd_gE h
  refine gj_iald _ (pc' := 9) (by decide +kernel) rfl (gd_inv g8) rfl rfl ?_
  refine gv_bipush (n := 8) (v := 8) (pc' := 11) (by decide +kernel) (by decide) rfl ?_
  refine gv_iand (pc' := 12) (by decide +kernel) rfl ?_
  refine gv_if_eq (off := 7) (tgt := 19) (pc' := 15) (by decide +kernel) (by decide) rfl (fun c12 => ?_) (fun c12 => ?_)
  · replace h := gd_T c12 h
    refine gv_iconst (n := 0) (v := 0) (pc' := 20) (by decide +kernel) (by decide) rfl ?_
    exact gv_iret .boolean (by decide +kernel) rfl rfl (by decide) (by decide) (gd_pE h)
  · replace h := gd_F c12 h
    refine gv_iconst (n := 1) (v := 1) (pc' := 16) (by decide +kernel) (by decide) rfl ?_
    refine gv_goto (off := 4) (tgt := 20) (by decide +kernel) (by decide) ?_
    exact gv_iret .boolean (by decide +kernel) rfl rfl (by decide) (by decide) (gd_pE h)
def R_Rewriter_newOffset (a : Int32) (σ : gS) : gP :=
 gd_g (gd_in a 1040) <|
 gd_g (gd_in (gA σ 9 a.toNatClampNeg) 1041) <|
 gd_g (gd_in a 1041) <|
 some (.inl (some (.int ((4 : Int32) * ((gA σ 39 (gA σ 9 a.toNatClampNeg).toNatClampNeg) - (gA σ 39 a.toNatClampNeg))))))
set_option maxRecDepth 20000 in
theorem X_Rewriter_newOffset (a : Int32) (σ : gS) (r0 : gQ) (h : R_Rewriter_newOffset a σ = some r0) : gv_K m_Rewriter_newOffset [.ref 38, .int a] σ (gv_is r0 σ) := by
  unfold R_Rewriter_newOffset at h
  show gv_V m_Rewriter_newOffset 1 true 0 [some (.ref 38), some (.int a)] [] σ (gv_is r0 σ)
  refine gv_iconst (n := 4) (v := 4) (pc' := 1) (by decide +kernel) (by decide) rfl ?_
  refine gv_aload_n (n := 0) (pc' := 2) (by decide +kernel) rfl rfl ?_
  refine gv_getr lk_8_9 (by decide +kernel) rfl rfl (pc' := 5) rfl ?_
  refine gv_aload_n (n := 0) (pc' := 6) (by decide +kernel) rfl rfl ?_
  refine gv_getr lk_8_18 (by decide +kernel) rfl rfl (pc' := 9) rfl ?_
  refine gv_getr lk_8_58 (by decide +kernel) rfl rfl (pc' := 12) rfl ?_
  refine gv_iload_n (n := 1) (pc' := 13) (by decide +kernel) rfl rfl ?_
  obtain ⟨g13, h⟩ := gd_gE h
  refine gj_iald _ (pc' := 14) (by decide +kernel) rfl (gd_inv g13) rfl rfl ?_
  obtain ⟨g14, h⟩ := gd_gE h
  refine gj_iald _ (pc' := 15) (by decide +kernel) rfl (gd_inv g14) rfl rfl ?_
  refine gv_aload_n (n := 0) (pc' := 16) (by decide +kernel) rfl rfl ?_
  refine gv_getr lk_8_9 (by decide +kernel) rfl rfl (pc' := 19) rfl ?_
  refine gv_iload_n (n := 1) (pc' := 20) (by decide +kernel) rfl rfl ?_
  obtain ⟨g20, h⟩ := gd_gE h
  refine gj_iald _ (pc' := 21) (by decide +kernel) rfl (gd_inv g20) rfl rfl ?_
  refine gv_isub (pc' := 22) (by decide +kernel) rfl ?_
  refine gv_imul (pc' := 23) (by decide +kernel) rfl ?_
  exact gv_iret .int (by decide +kernel) rfl rfl (by decide) (by decide) (gd_pE h)
def f_Word_isBranchOffset (a : Int32) : Int32 :=
 if a < (-4096) then
  0
 else
  if 4094 < a then
   0
  else
   1
set_option maxRecDepth 20000 in
theorem y_Word_isBranchOffset (a : Int32) (σ : gS) : gv_K m_Word_isBranchOffset [.int a] σ (gv_is (.inl (some (.int (f_Word_isBranchOffset a)))) σ) := by
  generalize h : f_Word_isBranchOffset a = r0
  unfold f_Word_isBranchOffset at h
  show gv_V m_Word_isBranchOffset 1 true 0 [some (.int a)] [] σ (gv_is (.inl (some (.int r0))) σ)
  refine gv_iload_n (n := 0) (pc' := 1) (by decide +kernel) rfl rfl ?_
  refine gv_sipush (n := (-4096)) (v := (-4096)) (pc' := 4) (by decide +kernel) (by decide) rfl ?_
  refine gv_icmp_lt (off := 14) (tgt := 18) (pc' := 7) (by decide +kernel) (by decide) rfl (fun c4 => ?_) (fun c4 => ?_)
  · replace h := gd_T c4 h
    refine gv_iconst (n := 0) (v := 0) (pc' := 19) (by decide +kernel) (by decide) rfl ?_
    exact gv_iret .boolean (by decide +kernel) rfl rfl (by decide) (by decide) (gd_vE h)
  · replace h := gd_F c4 h
    refine gv_iload_n (n := 0) (pc' := 8) (by decide +kernel) rfl rfl ?_
    refine gv_sipush (n := 4094) (v := 4094) (pc' := 11) (by decide +kernel) (by decide) rfl ?_
    refine gv_icmp_gt (off := 7) (tgt := 18) (pc' := 14) (by decide +kernel) (by decide) rfl (fun c11 => ?_) (fun c11 => ?_)
    · replace h := gd_T c11 h
      refine gv_iconst (n := 0) (v := 0) (pc' := 19) (by decide +kernel) (by decide) rfl ?_
      exact gv_iret .boolean (by decide +kernel) rfl rfl (by decide) (by decide) (gd_vE h)
    · replace h := gd_F c11 h
      refine gv_iconst (n := 1) (v := 1) (pc' := 15) (by decide +kernel) (by decide) rfl ?_
      refine gv_goto (off := 4) (tgt := 19) (by decide +kernel) (by decide) ?_
      exact gv_iret .boolean (by decide +kernel) rfl rfl (by decide) (by decide) (gd_vE h)
theorem z_Word_isBranchOffset (a : Int32) : f_Word_isBranchOffset a = 0 ∨ f_Word_isBranchOffset a = 1 := by
  unfold f_Word_isBranchOffset
  repeat' split
  all_goals first | exact Or.inl rfl | exact Or.inr rfl
def B_Rewriter_plan_61 (k17 : gS → gR) (x_1_13 : Int32) (ag16 : Int32 → gS → gR) (n_3_14 : Int32) (s15 : gS) : gR :=
 if (gI s15 2 7) ≤ n_3_14 then
  k17 s15
 else
  gd_g (gd_in n_3_14 1040) <|
  gd_j (α := gR) (
   ag16 (n_3_14 + 1) s15) fun J18 =>
  if (gA s15 3 n_3_14.toNatClampNeg) = 5 then
   gd_qi (R_Rewriter_newOffset n_3_14 s15) s15 fun r19 =>
   if (f_Word_isBranchOffset r19) = 0 then
    some (.inl (some (.int 0)), s15)
   else
    J18
  else
   J18
set_option maxRecDepth 20000 in
theorem L_Rewriter_plan_61 (k17 : gS → gR) (x_1_13 : Int32) (r0 : gQ × gS) (hk17 : ∀ (s20 : gS), k17 s20 = some r0 → gv_V m_Rewriter_plan 1 false 104 [none, some (.int x_1_13), none, none] [] s20 (gv_is r0.1 r0.2)) (n : Nat) : ∀ (n_3_14 : Int32) (s15 : gS), gd_lp (fun _ _ => none) (B_Rewriter_plan_61 k17 x_1_13) n n_3_14 s15 = some r0 → gv_V m_Rewriter_plan 1 false 61 [some (.ref 38), some (.int x_1_13), none, some (.int n_3_14)] [] s15 (gv_is r0.1 r0.2) := by
  refine gd_lpC (fun (ag16 : Int32 → gS → gR) => ∀ (n_3_14 : Int32) (s15 : gS), ag16 n_3_14 s15 = some r0 → gv_V m_Rewriter_plan 1 false 61 [some (.ref 38), some (.int x_1_13), none, some (.int n_3_14)] [] s15 (gv_is r0.1 r0.2)) (fun n_3_14 s15 h => by cases h) (fun ag16 ih n_3_14 s15 h => ?_) n
  unfold B_Rewriter_plan_61 at h
  refine gv_iload_n (n := 3) (pc' := 62) (by decide +kernel) rfl rfl ?_
  refine gv_aload_n (n := 0) (pc' := 63) (by decide +kernel) rfl rfl ?_
  refine gv_getr lk_8_18 (by decide +kernel) rfl rfl (pc' := 66) rfl ?_
  refine gv_getj lk_8_26 (by decide +kernel) rfl rfl (pc' := 69) rfl ?_
  refine gv_icmp_ge (off := 35) (tgt := 104) (pc' := 72) (by decide +kernel) (by decide) rfl (fun c69 => ?_) (fun c69 => ?_)
  · replace h := gd_T c69 h
    exact gd_ar (gl_n (gl_s (gl_n (gl_n gl_z)))) (fun z => by cases z) (hk17 _ h)
  · replace h := gd_F c69 h
    refine gv_aload_n (n := 0) (pc' := 73) (by decide +kernel) rfl rfl ?_
    refine gv_getr lk_8_18 (by decide +kernel) rfl rfl (pc' := 76) rfl ?_
    refine gv_getr lk_8_36 (by decide +kernel) rfl rfl (pc' := 79) rfl ?_
    refine gv_iload_n (n := 3) (pc' := 80) (by decide +kernel) rfl rfl ?_
    obtain ⟨g80, h⟩ := gd_gE h
    refine gj_iald _ (pc' := 81) (by decide +kernel) rfl (gd_inv g80) rfl rfl ?_
    refine gv_iconst (n := 5) (v := 5) (pc' := 82) (by decide +kernel) (by decide) rfl ?_
    refine gd_jC (fun J18 => J18 = some r0 → gv_V m_Rewriter_plan 1 false 98 [some (.ref 38), some (.int x_1_13), none, some (.int n_3_14)] [] s15 (gv_is r0.1 r0.2)) h (fun  h => ?_) (fun J18 hJ18 h => ?_)
    · refine gv_iincc (i := 3) (n := 1) (c := 1) (pc' := 101) (by decide +kernel) rfl (by decide) (by decide) rfl ?_
      refine gv_goto (off := -40) (tgt := 61) (by decide +kernel) (by decide) ?_
      exact gd_ar (gl_s (gl_s (gl_n (gl_s gl_z)))) (fun z => by cases z) (ih _ _ h)
    · refine gv_icmp_ne (off := 16) (tgt := 98) (pc' := 85) (by decide +kernel) (by decide) rfl (fun c82 => ?_) (fun c82 => ?_)
      · replace h := gd_F c82 h
        exact gd_ar (gl_s (gl_s (gl_n (gl_s gl_z)))) (fun z => by cases z) (hJ18  h)
      · replace h := gd_T c82 h
        refine gv_aload_n (n := 0) (pc' := 86) (by decide +kernel) rfl rfl ?_
        refine gv_iload_n (n := 3) (pc' := 87) (by decide +kernel) rfl rfl ?_
        refine gd_dvi (w' := false) (pc' := 90) (X_Rewriter_newOffset _ _) h md_Rewriter_newOffset vd_Rewriter_newOffset (Or.inl ml_8_39) (by decide +kernel) (by decide) rfl rfl rfl (Nat.le_of_ble_eq_true rfl) (Nat.le_of_ble_eq_true rfl) (by decide) rfl (fun z => by cases z) (by decide) rfl (fun r19 h => ?_)
        refine gv_csi (w' := false) (pc' := 93) (y_Word_isBranchOffset _ _) md_Word_isBranchOffset sd_Word_isBranchOffset (Or.inl ml_8_43) (by decide +kernel) (by decide) rfl (Nat.le_of_ble_eq_true rfl) (Nat.le_of_ble_eq_true rfl) (by decide) rfl (fun z => by cases z) (by decide) rfl ?_
        refine gv_if_ne (off := 5) (tgt := 98) (pc' := 96) (by decide +kernel) (by decide) rfl (fun c93 => ?_) (fun c93 => ?_)
        · replace h := gd_F c93 h
          exact gd_ar (gl_s (gl_s (gl_n (gl_s gl_z)))) (fun z => by cases z) (hJ18  h)
        · replace h := gd_T c93 h
          refine gv_iconst (n := 0) (v := 0) (pc' := 97) (by decide +kernel) (by decide) rfl ?_
          exact gv_iret .boolean (by decide +kernel) rfl rfl (by decide) (by decide) (gd_rE h)
def B_Rewriter_plan_4 (k6 : gS → gR) (x_1_1 : Int32) (ag5 : Int32 → Int32 → gS → gR) (n_2_2 : Int32) (n_3_3 : Int32) (s4 : gS) : gR :=
 if (gI s4 2 7) ≤ n_3_3 then
  k6 s4
 else
  gd_g (gd_in n_3_3 1041) <|
  gd_s (gs_A s4 39 n_3_3.toNatClampNeg (n_3_3 + n_2_2)) fun s7 =>
  gd_qi (R_Rewriter_isCut n_3_3 s7) s7 fun r8 =>
  gd_t (α := Int32) (if r8 = 0 then
    0
   else
    1) fun v10 =>
  ag5 (n_2_2 + v10) (n_3_3 + 1) s7
set_option maxRecDepth 20000 in
theorem L_Rewriter_plan_4 (k6 : gS → gR) (x_1_1 : Int32) (r0 : gQ × gS) (hk6 : ∀ (s11 : gS), k6 s11 = some r0 → gv_V m_Rewriter_plan 1 false 46 [some (.ref 38), some (.int x_1_1), none, none] [] s11 (gv_is r0.1 r0.2)) (n : Nat) : ∀ (n_2_2 : Int32) (n_3_3 : Int32) (s4 : gS), gd_lp (fun _ _ _ => none) (B_Rewriter_plan_4 k6 x_1_1) n n_2_2 n_3_3 s4 = some r0 → gv_V m_Rewriter_plan 1 false 4 [some (.ref 38), some (.int x_1_1), some (.int n_2_2), some (.int n_3_3)] [] s4 (gv_is r0.1 r0.2) := by
  refine gd_lpC (fun (ag5 : Int32 → Int32 → gS → gR) => ∀ (n_2_2 : Int32) (n_3_3 : Int32) (s4 : gS), ag5 n_2_2 n_3_3 s4 = some r0 → gv_V m_Rewriter_plan 1 false 4 [some (.ref 38), some (.int x_1_1), some (.int n_2_2), some (.int n_3_3)] [] s4 (gv_is r0.1 r0.2)) (fun n_2_2 n_3_3 s4 h => by cases h) (fun ag5 ih n_2_2 n_3_3 s4 h => ?_) n
  unfold B_Rewriter_plan_4 at h
  refine gv_iload_n (n := 3) (pc' := 5) (by decide +kernel) rfl rfl ?_
  refine gv_aload_n (n := 0) (pc' := 6) (by decide +kernel) rfl rfl ?_
  refine gv_getr lk_8_18 (by decide +kernel) rfl rfl (pc' := 9) rfl ?_
  refine gv_getj lk_8_26 (by decide +kernel) rfl rfl (pc' := 12) rfl ?_
  refine gv_icmp_ge (off := 34) (tgt := 46) (pc' := 15) (by decide +kernel) (by decide) rfl (fun c12 => ?_) (fun c12 => ?_)
  · replace h := gd_T c12 h
    exact gd_ar (gl_s (gl_s (gl_n (gl_n gl_z)))) (fun z => by cases z) (hk6 _ h)
  · replace h := gd_F c12 h
    refine gv_aload_n (n := 0) (pc' := 16) (by decide +kernel) rfl rfl ?_
    refine gv_getr lk_8_9 (by decide +kernel) rfl rfl (pc' := 19) rfl ?_
    refine gv_iload_n (n := 3) (pc' := 20) (by decide +kernel) rfl rfl ?_
    refine gv_iload_n (n := 3) (pc' := 21) (by decide +kernel) rfl rfl ?_
    refine gv_iload_n (n := 2) (pc' := 22) (by decide +kernel) rfl rfl ?_
    refine gv_iadd (pc' := 23) (by decide +kernel) rfl ?_
    obtain ⟨g23, h⟩ := gd_gE h
    refine gd_iast (pc' := 24) (by decide +kernel) rfl (gd_inv g23) rfl h (fun s7 h => ?_)
    refine gv_iload_n (n := 2) (pc' := 25) (by decide +kernel) rfl rfl ?_
    refine gv_aload_n (n := 0) (pc' := 26) (by decide +kernel) rfl rfl ?_
    refine gv_iload_n (n := 3) (pc' := 27) (by decide +kernel) rfl rfl ?_
    refine gd_dvi (w' := false) (pc' := 30) (X_Rewriter_isCut _ _) h md_Rewriter_isCut vd_Rewriter_isCut (Or.inl ml_8_32) (by decide +kernel) (by decide) rfl rfl rfl (Nat.le_of_ble_eq_true rfl) (Nat.le_of_ble_eq_true rfl) (by decide) rfl (fun z => by cases z) (by decide) rfl (fun r8 h => ?_)
    refine gd_tC (fun (v10 : Int32) => gv_V m_Rewriter_plan 1 false 38 [some (.ref 38), some (.int x_1_1), none, some (.int n_3_3)] [.int v10, .int n_2_2] s7 (gv_is r0.1 r0.2)) h (fun v10 h => ?_) (fun KJ9 hJ9 h => ?_)
    · refine gv_iadd (pc' := 39) (by decide +kernel) rfl ?_
      refine gv_istore_n (n := 2) (pc' := 40) (by decide +kernel) (by decide) rfl ?_
      refine gv_iincc (i := 3) (n := 1) (c := 1) (pc' := 43) (by decide +kernel) rfl (by decide) (by decide) rfl ?_
      refine gv_goto (off := -39) (tgt := 4) (by decide +kernel) (by decide) ?_
      exact gd_ar (gl_s (gl_s (gl_s (gl_s gl_z)))) (fun z => by cases z) (ih _ _ _ h)
    · refine gv_if_eq (off := 7) (tgt := 37) (pc' := 33) (by decide +kernel) (by decide) rfl (fun c30 => ?_) (fun c30 => ?_)
      · replace h := gd_tT c30 h
        refine gv_iconst (n := 0) (v := 0) (pc' := 38) (by decide +kernel) (by decide) rfl ?_
        exact gd_ar (gl_s (gl_s (gl_n (gl_s gl_z)))) (fun z => by cases z) (hJ9 _ h)
      · replace h := gd_tF c30 h
        refine gv_iconst (n := 1) (v := 1) (pc' := 34) (by decide +kernel) (by decide) rfl ?_
        refine gv_goto (off := 4) (tgt := 38) (by decide +kernel) (by decide) ?_
        exact gd_ar (gl_s (gl_s (gl_n (gl_s gl_z)))) (fun z => by cases z) (hJ9 _ h)
def F_Rewriter_plan (a : Int32) (σ : gS) : gR :=
 gd_j (α := gS → gR) (fun (s11 : gS) =>
  gd_g (gd_in (gI s11 2 7) 1041) <|
  gd_s (gs_A s11 39 (gI s11 2 7).toNatClampNeg a) fun s12 =>
  gd_j (α := gS → gR) (fun (s20 : gS) =>
   if 1040 < a then
    some (.inl (some (.int 0)), s20)
   else
    some (.inl (some (.int 1)), s20)) fun k17 =>
  gd_lp (fun _ _ => none) (B_Rewriter_plan_61 k17 a) gd_N 0 s12) fun k6 =>
 gd_lp (fun _ _ _ => none) (B_Rewriter_plan_4 k6 a) gd_N 0 0 σ
set_option maxRecDepth 20000 in
theorem X_Rewriter_plan (a : Int32) (σ : gS) (r0 : gQ × gS) (h : F_Rewriter_plan a σ = some r0) : gv_K m_Rewriter_plan [.ref 38, .int a] σ (gv_is r0.1 r0.2) := by
  unfold F_Rewriter_plan at h
  show gv_V m_Rewriter_plan 1 true 0 [some (.ref 38), some (.int a), none, none] [] σ (gv_is r0.1 r0.2)
  refine gv_iconst (n := 0) (v := 0) (pc' := 1) (by decide +kernel) (by decide) rfl ?_
  refine gv_istore_n (n := 2) (pc' := 2) (by decide +kernel) (by decide) rfl ?_
  refine gv_iconst (n := 0) (v := 0) (pc' := 3) (by decide +kernel) (by decide) rfl ?_
  refine gv_istore_n (n := 3) (pc' := 4) (by decide +kernel) (by decide) rfl ?_
  refine gd_jC (fun k6 => ∀ (s11 : gS), k6 s11 = some r0 → gv_V m_Rewriter_plan 1 false 46 [some (.ref 38), some (.int a), none, none] [] s11 (gv_is r0.1 r0.2)) h (fun s11 h => ?_) (fun k6 hk6 h => ?_)
  · refine gv_aload_n (n := 0) (pc' := 47) (by decide +kernel) rfl rfl ?_
    refine gv_getr lk_8_9 (by decide +kernel) rfl rfl (pc' := 50) rfl ?_
    refine gv_aload_n (n := 0) (pc' := 51) (by decide +kernel) rfl rfl ?_
    refine gv_getr lk_8_18 (by decide +kernel) rfl rfl (pc' := 54) rfl ?_
    refine gv_getj lk_8_26 (by decide +kernel) rfl rfl (pc' := 57) rfl ?_
    refine gv_iload_n (n := 1) (pc' := 58) (by decide +kernel) rfl rfl ?_
    obtain ⟨g58, h⟩ := gd_gE h
    refine gd_iast (pc' := 59) (by decide +kernel) rfl (gd_inv g58) rfl h (fun s12 h => ?_)
    refine gv_iconst (n := 0) (v := 0) (pc' := 60) (by decide +kernel) (by decide) rfl ?_
    refine gv_istore_n (n := 3) (pc' := 61) (by decide +kernel) (by decide) rfl ?_
    refine gd_jC (fun k17 => ∀ (s20 : gS), k17 s20 = some r0 → gv_V m_Rewriter_plan 1 false 104 [none, some (.int a), none, none] [] s20 (gv_is r0.1 r0.2)) h (fun s20 h => ?_) (fun k17 hk17 h => ?_)
    · refine gv_iload_n (n := 1) (pc' := 105) (by decide +kernel) rfl rfl ?_
      refine gv_sipush (n := 1040) (v := 1040) (pc' := 108) (by decide +kernel) (by decide) rfl ?_
      refine gv_icmp_gt (off := 7) (tgt := 115) (pc' := 111) (by decide +kernel) (by decide) rfl (fun c108 => ?_) (fun c108 => ?_)
      · replace h := gd_T c108 h
        refine gv_iconst (n := 0) (v := 0) (pc' := 116) (by decide +kernel) (by decide) rfl ?_
        exact gv_iret .boolean (by decide +kernel) rfl rfl (by decide) (by decide) (gd_rE h)
      · replace h := gd_F c108 h
        refine gv_iconst (n := 1) (v := 1) (pc' := 112) (by decide +kernel) (by decide) rfl ?_
        refine gv_goto (off := 4) (tgt := 116) (by decide +kernel) (by decide) ?_
        exact gv_iret .boolean (by decide +kernel) rfl rfl (by decide) (by decide) (gd_rE h)
    exact gd_ar (gl_s (gl_s (gl_n (gl_s gl_z)))) (fun z => by cases z) (L_Rewriter_plan_61 _ _ r0 hk17 _ _ _ h)
  exact gd_ar (gl_s (gl_s (gl_s (gl_s gl_z)))) (fun z => by cases z) (L_Rewriter_plan_4 _ _ r0 hk6 _ _ _ _ h)
def f_Word_withBranchOffset (a : Int32) (b : Int32) : Int32 :=
 ((a &&& (33550463 : Int32)) ||| (((((Int32.toUInt32 b >>> (Int32.toUInt32 (12 : Int32) &&& Int32.toUInt32 31)).toInt32) &&& (1 : Int32)) <<< ((31 : Int32) &&& 31)) ||| ((((Int32.toUInt32 b >>> (Int32.toUInt32 (5 : Int32) &&& Int32.toUInt32 31)).toInt32) &&& (63 : Int32)) <<< ((25 : Int32) &&& 31)))) ||| (((((Int32.toUInt32 b >>> (Int32.toUInt32 (1 : Int32) &&& Int32.toUInt32 31)).toInt32) &&& (15 : Int32)) <<< ((8 : Int32) &&& 31)) ||| ((((Int32.toUInt32 b >>> (Int32.toUInt32 (11 : Int32) &&& Int32.toUInt32 31)).toInt32) &&& (1 : Int32)) <<< ((7 : Int32) &&& 31)))
set_option maxRecDepth 20000 in
theorem y_Word_withBranchOffset (a : Int32) (b : Int32) (σ : gS) : gv_K m_Word_withBranchOffset [.int a, .int b] σ (gv_is (.inl (some (.int (f_Word_withBranchOffset a b)))) σ) := by
  generalize h : f_Word_withBranchOffset a b = r0
  unfold f_Word_withBranchOffset at h
  show gv_V m_Word_withBranchOffset 1 true 0 [some (.int a), some (.int b), none, none, none] [] σ (gv_is (.inl (some (.int r0))) σ)
  refine gv_iload_n (n := 0) (pc' := 1) (by decide +kernel) rfl rfl ?_
  refine gv_ldc (v := 33550463) (pc' := 3) (by decide +kernel) cn_10_25 rfl ?_
  refine gv_iand (pc' := 4) (by decide +kernel) rfl ?_
  refine gv_istore_n (n := 2) (pc' := 5) (by decide +kernel) (by decide) rfl ?_
  refine gv_iload_n (n := 1) (pc' := 6) (by decide +kernel) rfl rfl ?_
  refine gv_bipush (n := 12) (v := 12) (pc' := 8) (by decide +kernel) (by decide) rfl ?_
  refine gv_iushr (pc' := 9) (by decide +kernel) rfl ?_
  refine gv_iconst (n := 1) (v := 1) (pc' := 10) (by decide +kernel) (by decide) rfl ?_
  refine gv_iand (pc' := 11) (by decide +kernel) rfl ?_
  refine gv_bipush (n := 31) (v := 31) (pc' := 13) (by decide +kernel) (by decide) rfl ?_
  refine gv_ishl (pc' := 14) (by decide +kernel) rfl ?_
  refine gv_iload_n (n := 1) (pc' := 15) (by decide +kernel) rfl rfl ?_
  refine gv_iconst (n := 5) (v := 5) (pc' := 16) (by decide +kernel) (by decide) rfl ?_
  refine gv_iushr (pc' := 17) (by decide +kernel) rfl ?_
  refine gv_bipush (n := 63) (v := 63) (pc' := 19) (by decide +kernel) (by decide) rfl ?_
  refine gv_iand (pc' := 20) (by decide +kernel) rfl ?_
  refine gv_bipush (n := 25) (v := 25) (pc' := 22) (by decide +kernel) (by decide) rfl ?_
  refine gv_ishl (pc' := 23) (by decide +kernel) rfl ?_
  refine gv_ior (pc' := 24) (by decide +kernel) rfl ?_
  refine gv_istore_n (n := 3) (pc' := 25) (by decide +kernel) (by decide) rfl ?_
  refine gv_iload_n (n := 1) (pc' := 26) (by decide +kernel) rfl rfl ?_
  refine gv_iconst (n := 1) (v := 1) (pc' := 27) (by decide +kernel) (by decide) rfl ?_
  refine gv_iushr (pc' := 28) (by decide +kernel) rfl ?_
  refine gv_bipush (n := 15) (v := 15) (pc' := 30) (by decide +kernel) (by decide) rfl ?_
  refine gv_iand (pc' := 31) (by decide +kernel) rfl ?_
  refine gv_bipush (n := 8) (v := 8) (pc' := 33) (by decide +kernel) (by decide) rfl ?_
  refine gv_ishl (pc' := 34) (by decide +kernel) rfl ?_
  refine gv_iload_n (n := 1) (pc' := 35) (by decide +kernel) rfl rfl ?_
  refine gv_bipush (n := 11) (v := 11) (pc' := 37) (by decide +kernel) (by decide) rfl ?_
  refine gv_iushr (pc' := 38) (by decide +kernel) rfl ?_
  refine gv_iconst (n := 1) (v := 1) (pc' := 39) (by decide +kernel) (by decide) rfl ?_
  refine gv_iand (pc' := 40) (by decide +kernel) rfl ?_
  refine gv_bipush (n := 7) (v := 7) (pc' := 42) (by decide +kernel) (by decide) rfl ?_
  refine gv_ishl (pc' := 43) (by decide +kernel) rfl ?_
  refine gv_ior (pc' := 44) (by decide +kernel) rfl ?_
  refine gv_istore (n := 4) (pc' := 46) (by decide +kernel) (by decide) rfl ?_
  refine gv_iload_n (n := 2) (pc' := 47) (by decide +kernel) rfl rfl ?_
  refine gv_iload_n (n := 3) (pc' := 48) (by decide +kernel) rfl rfl ?_
  refine gv_ior (pc' := 49) (by decide +kernel) rfl ?_
  refine gv_iload (n := 4) (pc' := 51) (by decide +kernel) rfl rfl ?_
  refine gv_ior (pc' := 52) (by decide +kernel) rfl ?_
  exact gv_iret .int (by decide +kernel) rfl rfl (by decide) (by decide) (gd_vE h)
def f_Word_withJumpOffset (a : Int32) (b : Int32) : Int32 :=
 ((a &&& (4095 : Int32)) ||| (((((Int32.toUInt32 b >>> (Int32.toUInt32 (20 : Int32) &&& Int32.toUInt32 31)).toInt32) &&& (1 : Int32)) <<< ((31 : Int32) &&& 31)) ||| ((((Int32.toUInt32 b >>> (Int32.toUInt32 (1 : Int32) &&& Int32.toUInt32 31)).toInt32) &&& (1023 : Int32)) <<< ((21 : Int32) &&& 31)))) ||| (((((Int32.toUInt32 b >>> (Int32.toUInt32 (11 : Int32) &&& Int32.toUInt32 31)).toInt32) &&& (1 : Int32)) <<< ((20 : Int32) &&& 31)) ||| (b &&& (1044480 : Int32)))
set_option maxRecDepth 20000 in
theorem y_Word_withJumpOffset (a : Int32) (b : Int32) (σ : gS) : gv_K m_Word_withJumpOffset [.int a, .int b] σ (gv_is (.inl (some (.int (f_Word_withJumpOffset a b)))) σ) := by
  generalize h : f_Word_withJumpOffset a b = r0
  unfold f_Word_withJumpOffset at h
  show gv_V m_Word_withJumpOffset 1 true 0 [some (.int a), some (.int b), none, none, none] [] σ (gv_is (.inl (some (.int r0))) σ)
  refine gv_iload_n (n := 0) (pc' := 1) (by decide +kernel) rfl rfl ?_
  refine gv_sipush (n := 4095) (v := 4095) (pc' := 4) (by decide +kernel) (by decide) rfl ?_
  refine gv_iand (pc' := 5) (by decide +kernel) rfl ?_
  refine gv_istore_n (n := 2) (pc' := 6) (by decide +kernel) (by decide) rfl ?_
  refine gv_iload_n (n := 1) (pc' := 7) (by decide +kernel) rfl rfl ?_
  refine gv_bipush (n := 20) (v := 20) (pc' := 9) (by decide +kernel) (by decide) rfl ?_
  refine gv_iushr (pc' := 10) (by decide +kernel) rfl ?_
  refine gv_iconst (n := 1) (v := 1) (pc' := 11) (by decide +kernel) (by decide) rfl ?_
  refine gv_iand (pc' := 12) (by decide +kernel) rfl ?_
  refine gv_bipush (n := 31) (v := 31) (pc' := 14) (by decide +kernel) (by decide) rfl ?_
  refine gv_ishl (pc' := 15) (by decide +kernel) rfl ?_
  refine gv_iload_n (n := 1) (pc' := 16) (by decide +kernel) rfl rfl ?_
  refine gv_iconst (n := 1) (v := 1) (pc' := 17) (by decide +kernel) (by decide) rfl ?_
  refine gv_iushr (pc' := 18) (by decide +kernel) rfl ?_
  refine gv_sipush (n := 1023) (v := 1023) (pc' := 21) (by decide +kernel) (by decide) rfl ?_
  refine gv_iand (pc' := 22) (by decide +kernel) rfl ?_
  refine gv_bipush (n := 21) (v := 21) (pc' := 24) (by decide +kernel) (by decide) rfl ?_
  refine gv_ishl (pc' := 25) (by decide +kernel) rfl ?_
  refine gv_ior (pc' := 26) (by decide +kernel) rfl ?_
  refine gv_istore_n (n := 3) (pc' := 27) (by decide +kernel) (by decide) rfl ?_
  refine gv_iload_n (n := 1) (pc' := 28) (by decide +kernel) rfl rfl ?_
  refine gv_bipush (n := 11) (v := 11) (pc' := 30) (by decide +kernel) (by decide) rfl ?_
  refine gv_iushr (pc' := 31) (by decide +kernel) rfl ?_
  refine gv_iconst (n := 1) (v := 1) (pc' := 32) (by decide +kernel) (by decide) rfl ?_
  refine gv_iand (pc' := 33) (by decide +kernel) rfl ?_
  refine gv_bipush (n := 20) (v := 20) (pc' := 35) (by decide +kernel) (by decide) rfl ?_
  refine gv_ishl (pc' := 36) (by decide +kernel) rfl ?_
  refine gv_iload_n (n := 1) (pc' := 37) (by decide +kernel) rfl rfl ?_
  refine gv_ldc (v := 1044480) (pc' := 39) (by decide +kernel) cn_10_24 rfl ?_
  refine gv_iand (pc' := 40) (by decide +kernel) rfl ?_
  refine gv_ior (pc' := 41) (by decide +kernel) rfl ?_
  refine gv_istore (n := 4) (pc' := 43) (by decide +kernel) (by decide) rfl ?_
  refine gv_iload_n (n := 2) (pc' := 44) (by decide +kernel) rfl rfl ?_
  refine gv_iload_n (n := 3) (pc' := 45) (by decide +kernel) rfl rfl ?_
  refine gv_ior (pc' := 46) (by decide +kernel) rfl ?_
  refine gv_iload (n := 4) (pc' := 48) (by decide +kernel) rfl rfl ?_
  refine gv_ior (pc' := 49) (by decide +kernel) rfl ?_
  exact gv_iret .int (by decide +kernel) rfl rfl (by decide) (by decide) (gd_vE h)
def R_Rewriter_newWord (a : Int32) (b : Int32) (σ : gS) : gP :=
 gd_g (gd_in a 1040) <|
 if (gA σ 3 a.toNatClampNeg) = 5 then
  gd_pi (R_Rewriter_newOffset a σ) fun r1 =>
  some (.inl (some (.int (f_Word_withBranchOffset b r1))))
 else if (gA σ 3 a.toNatClampNeg) = 6 then
  gd_pi (R_Rewriter_newOffset a σ) fun r2 =>
  some (.inl (some (.int (f_Word_withJumpOffset b r2))))
 else 
  some (.inl (some (.int b)))
set_option maxRecDepth 20000 in
theorem X_Rewriter_newWord (a : Int32) (b : Int32) (σ : gS) (r0 : gQ) (h : R_Rewriter_newWord a b σ = some r0) : gv_K m_Rewriter_newWord [.ref 38, .int a, .int b] σ (gv_is r0 σ) := by
  unfold R_Rewriter_newWord at h
  show gv_V m_Rewriter_newWord 1 true 0 [some (.ref 38), some (.int a), some (.int b)] [] σ (gv_is r0 σ)
  refine gv_aload_n (n := 0) (pc' := 1) (by decide +kernel) rfl rfl ?_
  refine gv_getr lk_8_18 (by decide +kernel) rfl rfl (pc' := 4) rfl ?_
  refine gv_getr lk_8_36 (by decide +kernel) rfl rfl (pc' := 7) rfl ?_
  refine gv_iload_n (n := 1) (pc' := 8) (by decide +kernel) rfl rfl ?_
  obtain ⟨g8, h⟩ := gd_gE h
  refine gj_iald _ (pc' := 9) (by decide +kernel) rfl (gd_inv g8) rfl rfl ?_
  by_cases q9_0 : (gA σ 3 a.toNatClampNeg) = 5
  · replace h := gd_T q9_0 h
    refine gv_lookup (dflt := 47) (ps := #[(5, 27), (6, 37)]) (len := 27) (off := 27) (tgt := 36) (by decide +kernel) (by decide) (gd_lkT q9_0 (by decide +kernel)) (by decide) ?_
    refine gv_iload_n (n := 2) (pc' := 37) (by decide +kernel) rfl rfl ?_
    refine gv_aload_n (n := 0) (pc' := 38) (by decide +kernel) rfl rfl ?_
    refine gv_iload_n (n := 1) (pc' := 39) (by decide +kernel) rfl rfl ?_
    refine gd_evi (w' := true) (pc' := 42) (X_Rewriter_newOffset _ _) h md_Rewriter_newOffset vd_Rewriter_newOffset (Or.inl ml_8_39) (by decide +kernel) (by decide) rfl rfl rfl (Nat.le_of_ble_eq_true rfl) (Nat.le_of_ble_eq_true rfl) (by decide) rfl (fun z => ⟨rfl, z⟩) (by decide) rfl (fun r1 h => ?_)
    refine gv_csi (w' := true) (pc' := 45) (y_Word_withBranchOffset _ _ _) md_Word_withBranchOffset sd_Word_withBranchOffset (Or.inl ml_8_61) (by decide +kernel) (by decide) rfl (Nat.le_of_ble_eq_true rfl) (Nat.le_of_ble_eq_true rfl) (by decide) rfl (fun z => ⟨rfl, z⟩) (by decide) rfl ?_
    exact gv_iret .int (by decide +kernel) rfl rfl (by decide) (by decide) (gd_pE h)
  replace h := gd_F q9_0 h
  by_cases q9_1 : (gA σ 3 a.toNatClampNeg) = 6
  · replace h := gd_T q9_1 h
    refine gv_lookup (dflt := 47) (ps := #[(5, 27), (6, 37)]) (len := 27) (off := 37) (tgt := 46) (by decide +kernel) (by decide) (gd_lkT q9_1 (by decide +kernel)) (by decide) ?_
    refine gv_iload_n (n := 2) (pc' := 47) (by decide +kernel) rfl rfl ?_
    refine gv_aload_n (n := 0) (pc' := 48) (by decide +kernel) rfl rfl ?_
    refine gv_iload_n (n := 1) (pc' := 49) (by decide +kernel) rfl rfl ?_
    refine gd_evi (w' := true) (pc' := 52) (X_Rewriter_newOffset _ _) h md_Rewriter_newOffset vd_Rewriter_newOffset (Or.inl ml_8_39) (by decide +kernel) (by decide) rfl rfl rfl (Nat.le_of_ble_eq_true rfl) (Nat.le_of_ble_eq_true rfl) (by decide) rfl (fun z => ⟨rfl, z⟩) (by decide) rfl (fun r2 h => ?_)
    refine gv_csi (w' := true) (pc' := 55) (y_Word_withJumpOffset _ _ _) md_Word_withJumpOffset sd_Word_withJumpOffset (Or.inl ml_8_64) (by decide +kernel) (by decide) rfl (Nat.le_of_ble_eq_true rfl) (Nat.le_of_ble_eq_true rfl) (by decide) rfl (fun z => ⟨rfl, z⟩) (by decide) rfl ?_
    exact gv_iret .int (by decide +kernel) rfl rfl (by decide) (by decide) (gd_pE h)
  replace h := gd_F q9_1 h
  refine gv_lookup (dflt := 47) (ps := #[(5, 27), (6, 37)]) (len := 27) (off := 47) (tgt := 56) (by decide +kernel) (by decide) (gd_lk1 q9_0 (by decide) (gd_lk1 q9_1 (by decide) (gd_lk0 _ _))) (by decide) ?_
  refine gv_iload_n (n := 2) (pc' := 57) (by decide +kernel) rfl rfl ?_
  exact gv_iret .int (by decide +kernel) rfl rfl (by decide) (by decide) (gd_pE h)
def B_Rewriter_writeOver_1_10 (k4 : gS → gR) (ag3 : Int32 → gS → gR) (n_2_1 : Int32) (s2 : gS) : gR :=
 if n_2_1 < 0 then
  k4 s2
 else
  gd_g (gd_in n_2_1 1041) <|
  gd_g (gd_in n_2_1 1040) <|
  gd_qi (R_Rewriter_newWord n_2_1 (gA s2 1 n_2_1.toNatClampNeg) s2) s2 fun r5 =>
  gd_g (gd_in (gA s2 39 n_2_1.toNatClampNeg) 1040) <|
  gd_s (gs_A s2 1 (gA s2 39 n_2_1.toNatClampNeg).toNatClampNeg r5) fun s6 =>
  gd_g (gd_in (gA s2 39 n_2_1.toNatClampNeg) 1040) <|
  gd_s (gs_A s6 40 (gA s2 39 n_2_1.toNatClampNeg).toNatClampNeg n_2_1) fun s7 =>
  gd_qi (R_Rewriter_isCut n_2_1 s7) s7 fun r8 =>
  gd_j (α := gS → gR) (fun (s12 : gS) =>
   ag3 (n_2_1 + (-1)) s12) fun J9 =>
  if r8 = 0 then
   J9 s7
  else
   gd_g (gd_in ((gA s2 39 n_2_1.toNatClampNeg) + (1 : Int32)) 1040) <|
   gd_s (gs_A s7 1 ((gA s2 39 n_2_1.toNatClampNeg) + (1 : Int32)).toNatClampNeg 267386895) fun s10 =>
   gd_g (gd_in ((gA s2 39 n_2_1.toNatClampNeg) + (1 : Int32)) 1040) <|
   gd_s (gs_A s10 40 ((gA s2 39 n_2_1.toNatClampNeg) + (1 : Int32)).toNatClampNeg (-1)) fun s11 =>
   J9 s11
set_option maxRecDepth 20000 in
theorem L_Rewriter_writeOver_1_10 (k4 : gS → gR) (r0 : gQ × gS) (hk4 : ∀ (s13 : gS), k4 s13 = some r0 → gv_V m_Rewriter_writeOver 1 false 69 [some (.ref 38), none, none, none] [] s13 (gv_is r0.1 r0.2)) (n : Nat) : ∀ (n_2_1 : Int32) (s2 : gS), gd_lp (fun _ _ => none) (B_Rewriter_writeOver_1_10 k4) n n_2_1 s2 = some r0 → gv_V m_Rewriter_writeOver 1 false 10 [some (.ref 38), some (.ref 1), some (.int n_2_1), none] [] s2 (gv_is r0.1 r0.2) := by
  refine gd_lpC (fun (ag3 : Int32 → gS → gR) => ∀ (n_2_1 : Int32) (s2 : gS), ag3 n_2_1 s2 = some r0 → gv_V m_Rewriter_writeOver 1 false 10 [some (.ref 38), some (.ref 1), some (.int n_2_1), none] [] s2 (gv_is r0.1 r0.2)) (fun n_2_1 s2 h => by cases h) (fun ag3 ih n_2_1 s2 h => ?_) n
  unfold B_Rewriter_writeOver_1_10 at h
  refine gv_iload_n (n := 2) (pc' := 11) (by decide +kernel) rfl rfl ?_
  refine gv_if_lt (off := 58) (tgt := 69) (pc' := 14) (by decide +kernel) (by decide) rfl (fun c11 => ?_) (fun c11 => ?_)
  · replace h := gd_T c11 h
    exact gd_ar (gl_s (gl_n (gl_n (gl_n gl_z)))) (fun z => by cases z) (hk4 _ h)
  · replace h := gd_F c11 h
    refine gv_aload_n (n := 0) (pc' := 15) (by decide +kernel) rfl rfl ?_
    refine gv_getr lk_8_9 (by decide +kernel) rfl rfl (pc' := 18) rfl ?_
    refine gv_iload_n (n := 2) (pc' := 19) (by decide +kernel) rfl rfl ?_
    obtain ⟨g19, h⟩ := gd_gE h
    refine gj_iald _ (pc' := 20) (by decide +kernel) rfl (gd_inv g19) rfl rfl ?_
    refine gv_istore_n (n := 3) (pc' := 21) (by decide +kernel) (by decide) rfl ?_
    refine gv_aload_n (n := 1) (pc' := 22) (by decide +kernel) rfl rfl ?_
    refine gv_iload_n (n := 3) (pc' := 23) (by decide +kernel) rfl rfl ?_
    refine gv_aload_n (n := 0) (pc' := 24) (by decide +kernel) rfl rfl ?_
    refine gv_iload_n (n := 2) (pc' := 25) (by decide +kernel) rfl rfl ?_
    refine gv_aload_n (n := 1) (pc' := 26) (by decide +kernel) rfl rfl ?_
    refine gv_iload_n (n := 2) (pc' := 27) (by decide +kernel) rfl rfl ?_
    obtain ⟨g27, h⟩ := gd_gE h
    refine gj_iald _ (pc' := 28) (by decide +kernel) rfl (gd_inv g27) rfl rfl ?_
    refine gd_dvi (w' := false) (pc' := 31) (X_Rewriter_newWord _ _ _) h md_Rewriter_newWord vd_Rewriter_newWord (Or.inl ml_8_48) (by decide +kernel) (by decide) rfl rfl rfl (Nat.le_of_ble_eq_true rfl) (Nat.le_of_ble_eq_true rfl) (by decide) rfl (fun z => by cases z) (by decide) rfl (fun r5 h => ?_)
    obtain ⟨g31, h⟩ := gd_gE h
    refine gd_iast (pc' := 32) (by decide +kernel) rfl (gd_inv g31) rfl h (fun s6 h => ?_)
    refine gv_aload_n (n := 0) (pc' := 33) (by decide +kernel) rfl rfl ?_
    refine gv_getr lk_8_15 (by decide +kernel) rfl rfl (pc' := 36) rfl ?_
    refine gv_iload_n (n := 3) (pc' := 37) (by decide +kernel) rfl rfl ?_
    refine gv_iload_n (n := 2) (pc' := 38) (by decide +kernel) rfl rfl ?_
    obtain ⟨g38, h⟩ := gd_gE h
    refine gd_iast (pc' := 39) (by decide +kernel) rfl (gd_inv g38) rfl h (fun s7 h => ?_)
    refine gv_aload_n (n := 0) (pc' := 40) (by decide +kernel) rfl rfl ?_
    refine gv_iload_n (n := 2) (pc' := 41) (by decide +kernel) rfl rfl ?_
    refine gd_dvi (w' := false) (pc' := 44) (X_Rewriter_isCut _ _) h md_Rewriter_isCut vd_Rewriter_isCut (Or.inl ml_8_32) (by decide +kernel) (by decide) rfl rfl rfl (Nat.le_of_ble_eq_true rfl) (Nat.le_of_ble_eq_true rfl) (by decide) rfl (fun z => by cases z) (by decide) rfl (fun r8 h => ?_)
    refine gd_jC (fun J9 => ∀ (s12 : gS), J9 s12 = some r0 → gv_V m_Rewriter_writeOver 1 false 63 [some (.ref 38), some (.ref 1), some (.int n_2_1), none] [] s12 (gv_is r0.1 r0.2)) h (fun s12 h => ?_) (fun J9 hJ9 h => ?_)
    · refine gv_iincc (i := 2) (n := (-1)) (c := (-1)) (pc' := 66) (by decide +kernel) rfl (by decide) (by decide) rfl ?_
      refine gv_goto (off := -56) (tgt := 10) (by decide +kernel) (by decide) ?_
      exact gd_ar (gl_s (gl_s (gl_s (gl_n gl_z)))) (fun z => by cases z) (ih _ _ h)
    · refine gv_if_eq (off := 19) (tgt := 63) (pc' := 47) (by decide +kernel) (by decide) rfl (fun c44 => ?_) (fun c44 => ?_)
      · replace h := gd_T c44 h
        exact gd_ar (gl_s (gl_s (gl_s (gl_n gl_z)))) (fun z => by cases z) (hJ9 _ h)
      · replace h := gd_F c44 h
        refine gv_aload_n (n := 1) (pc' := 48) (by decide +kernel) rfl rfl ?_
        refine gv_iload_n (n := 3) (pc' := 49) (by decide +kernel) rfl rfl ?_
        refine gv_iconst (n := 1) (v := 1) (pc' := 50) (by decide +kernel) (by decide) rfl ?_
        refine gv_iadd (pc' := 51) (by decide +kernel) rfl ?_
        refine gv_ldc (v := 267386895) (pc' := 53) (by decide +kernel) cn_8_52 rfl ?_
        obtain ⟨g53, h⟩ := gd_gE h
        refine gd_iast (pc' := 54) (by decide +kernel) rfl (gd_inv g53) rfl h (fun s10 h => ?_)
        refine gv_aload_n (n := 0) (pc' := 55) (by decide +kernel) rfl rfl ?_
        refine gv_getr lk_8_15 (by decide +kernel) rfl rfl (pc' := 58) rfl ?_
        refine gv_iload_n (n := 3) (pc' := 59) (by decide +kernel) rfl rfl ?_
        refine gv_iconst (n := 1) (v := 1) (pc' := 60) (by decide +kernel) (by decide) rfl ?_
        refine gv_iadd (pc' := 61) (by decide +kernel) rfl ?_
        refine gv_iconst (n := (-1)) (v := (-1)) (pc' := 62) (by decide +kernel) (by decide) rfl ?_
        obtain ⟨g62, h⟩ := gd_gE h
        refine gd_iast (pc' := 63) (by decide +kernel) rfl (gd_inv g62) rfl h (fun s11 h => ?_)
        exact gd_ar (gl_s (gl_s (gl_s (gl_n gl_z)))) (fun z => by cases z) (hJ9 _ h)
def F_Rewriter_writeOver_1 (σ : gS) : gR :=
 gd_j (α := gS → gR) (fun (s13 : gS) =>
  gd_g (gd_in (gI s13 2 7) 1041) <|
  some (.inl (some (.int (gA s13 39 (gI s13 2 7).toNatClampNeg))), s13)) fun k4 =>
 gd_lp (fun _ _ => none) (B_Rewriter_writeOver_1_10 k4) gd_N ((gI σ 2 7) - (1 : Int32)) σ
set_option maxRecDepth 20000 in
theorem X_Rewriter_writeOver_1 (σ : gS) (r0 : gQ × gS) (h : F_Rewriter_writeOver_1 σ = some r0) : gv_K m_Rewriter_writeOver [.ref 38, .ref 1] σ (gv_is r0.1 r0.2) := by
  unfold F_Rewriter_writeOver_1 at h
  show gv_V m_Rewriter_writeOver 1 true 0 [some (.ref 38), some (.ref 1), none, none] [] σ (gv_is r0.1 r0.2)
  refine gv_aload_n (n := 0) (pc' := 1) (by decide +kernel) rfl rfl ?_
  refine gv_getr lk_8_18 (by decide +kernel) rfl rfl (pc' := 4) rfl ?_
  refine gv_getj lk_8_26 (by decide +kernel) rfl rfl (pc' := 7) rfl ?_
  refine gv_iconst (n := 1) (v := 1) (pc' := 8) (by decide +kernel) (by decide) rfl ?_
  refine gv_isub (pc' := 9) (by decide +kernel) rfl ?_
  refine gv_istore_n (n := 2) (pc' := 10) (by decide +kernel) (by decide) rfl ?_
  refine gd_jC (fun k4 => ∀ (s13 : gS), k4 s13 = some r0 → gv_V m_Rewriter_writeOver 1 false 69 [some (.ref 38), none, none, none] [] s13 (gv_is r0.1 r0.2)) h (fun s13 h => ?_) (fun k4 hk4 h => ?_)
  · refine gv_aload_n (n := 0) (pc' := 70) (by decide +kernel) rfl rfl ?_
    refine gv_getr lk_8_9 (by decide +kernel) rfl rfl (pc' := 73) rfl ?_
    refine gv_aload_n (n := 0) (pc' := 74) (by decide +kernel) rfl rfl ?_
    refine gv_getr lk_8_18 (by decide +kernel) rfl rfl (pc' := 77) rfl ?_
    refine gv_getj lk_8_26 (by decide +kernel) rfl rfl (pc' := 80) rfl ?_
    obtain ⟨g80, h⟩ := gd_gE h
    refine gj_iald _ (pc' := 81) (by decide +kernel) rfl (gd_inv g80) rfl rfl ?_
    exact gv_iret .int (by decide +kernel) rfl rfl (by decide) (by decide) (gd_rE h)
  exact gd_ar (gl_s (gl_s (gl_s (gl_n gl_z)))) (fun z => by cases z) (L_Rewriter_writeOver_1_10 _ r0 hk4 _ _ _ h)
def F_G_rewrite (σ : gS) : gR :=
 gd_q0 (R_G_needLoaded σ) σ <|
 gd_0 (F_G_study σ) fun s1 =>
 gd_i (F_Rewriter_plan ((gI s1 0 7) + (gI s1 33 8)) s1) fun r2 s3 =>
 if r2 = 0 then
  some (.inl (some (.int (-1))), s3)
 else
  gd_i (F_Rewriter_writeOver_1 s3) fun r4 s5 =>
  gd_s (gs_I s5 0 7 r4) fun s6 =>
  gd_s (gs_I s6 0 11 1) fun s7 =>
  gd_i (F_G_takeUp s7) fun r8 s9 =>
  some (.inl (some (.int (gI s9 0 7))), s9)
set_option maxRecDepth 20000 in
theorem X_G_rewrite (σ : gS) (r0 : gQ × gS) (h : F_G_rewrite σ = some r0) : gv_K m_G_rewrite [.ref 0] σ (gv_is r0.1 r0.2) := by
  unfold F_G_rewrite at h
  show gv_V m_G_rewrite 1 true 0 [some (.ref 0)] [] σ (gv_is r0.1 r0.2)
  refine gv_aload_n (n := 0) (pc' := 1) (by decide +kernel) rfl rfl ?_
  refine gd_dv0 (w' := true) (pc' := 4) (X_G_needLoaded _) h md_G_needLoaded vd_G_needLoaded (Or.inl ml_0_100) (by decide +kernel) (by decide) rfl rfl rfl (Nat.le_of_ble_eq_true rfl) (Nat.le_of_ble_eq_true rfl) (by decide) rfl (fun z => ⟨rfl, z⟩) (by decide) rfl (fun h => ?_)
  refine gv_aload_n (n := 0) (pc' := 5) (by decide +kernel) rfl rfl ?_
  refine gd_cv0 (w' := false) (pc' := 8) (X_G_study _) h md_G_study vd_G_study (Or.inl ml_0_154) (by decide +kernel) (by decide) rfl rfl rfl (Nat.le_of_ble_eq_true rfl) (Nat.le_of_ble_eq_true rfl) (by decide) rfl (fun z => by cases z) (by decide) rfl (fun s1 h => ?_)
  refine gv_aload_n (n := 0) (pc' := 9) (by decide +kernel) rfl rfl ?_
  refine gv_getr lk_0_59 (by decide +kernel) rfl rfl (pc' := 12) rfl ?_
  refine gv_aload_n (n := 0) (pc' := 13) (by decide +kernel) rfl rfl ?_
  refine gv_getj lk_0_63 (by decide +kernel) rfl rfl (pc' := 16) rfl ?_
  refine gv_aload_n (n := 0) (pc' := 17) (by decide +kernel) rfl rfl ?_
  refine gv_getr lk_0_50 (by decide +kernel) rfl rfl (pc' := 20) rfl ?_
  refine gv_getj lk_0_170 (by decide +kernel) rfl rfl (pc' := 23) rfl ?_
  refine gv_iadd (pc' := 24) (by decide +kernel) rfl ?_
  refine gd_cvi (w' := false) (pc' := 27) (X_Rewriter_plan _ _) h md_Rewriter_plan vd_Rewriter_plan (Or.inl ml_0_173) (by decide +kernel) (by decide) rfl rfl rfl (Nat.le_of_ble_eq_true rfl) (Nat.le_of_ble_eq_true rfl) (by decide) rfl (fun z => by cases z) (by decide) rfl (fun r2 s3 h => ?_)
  refine gv_if_ne (off := 5) (tgt := 32) (pc' := 30) (by decide +kernel) (by decide) rfl (fun c27 => ?_) (fun c27 => ?_)
  · replace h := gd_F c27 h
    refine gv_aload_n (n := 0) (pc' := 33) (by decide +kernel) rfl rfl ?_
    refine gv_aload_n (n := 0) (pc' := 34) (by decide +kernel) rfl rfl ?_
    refine gv_getr lk_0_59 (by decide +kernel) rfl rfl (pc' := 37) rfl ?_
    refine gv_aload_n (n := 0) (pc' := 38) (by decide +kernel) rfl rfl ?_
    refine gv_getr lk_0_9 (by decide +kernel) rfl rfl (pc' := 41) rfl ?_
    refine gd_cvi (w' := false) (pc' := 44) (X_Rewriter_writeOver_1 _) h md_Rewriter_writeOver vd_Rewriter_writeOver (Or.inl ml_0_176) (by decide +kernel) (by decide) rfl rfl rfl (Nat.le_of_ble_eq_true rfl) (Nat.le_of_ble_eq_true rfl) (by decide) rfl (fun z => by cases z) (by decide) rfl (fun r4 s5 h => ?_)
    refine gd_puti lp_0_63 (by decide +kernel) rfl rfl rfl rfl (pc' := 47) rfl h (fun s6 h => ?_)
    refine gv_aload_n (n := 0) (pc' := 48) (by decide +kernel) rfl rfl ?_
    refine gv_iconst (n := 1) (v := 1) (pc' := 49) (by decide +kernel) (by decide) rfl ?_
    refine gd_puti lp_0_77 (by decide +kernel) rfl rfl rfl rfl (pc' := 52) rfl h (fun s7 h => ?_)
    refine gv_aload_n (n := 0) (pc' := 53) (by decide +kernel) rfl rfl ?_
    refine gd_cvi (w' := false) (pc' := 56) (X_G_takeUp _) h md_G_takeUp vd_G_takeUp (Or.inl ml_0_96) (by decide +kernel) (by decide) rfl rfl rfl (Nat.le_of_ble_eq_true rfl) (Nat.le_of_ble_eq_true rfl) (by decide) rfl (fun z => by cases z) (by decide) rfl (fun r8 s9 h => ?_)
    refine gv_pop (pc' := 57) (by decide +kernel) rfl rfl ?_
    refine gv_aload_n (n := 0) (pc' := 58) (by decide +kernel) rfl rfl ?_
    refine gv_getj lk_0_63 (by decide +kernel) rfl rfl (pc' := 61) rfl ?_
    exact gv_iret .int (by decide +kernel) rfl rfl (by decide) (by decide) (gd_rE h)
  · replace h := gd_T c27 h
    refine gv_iconst (n := (-1)) (v := (-1)) (pc' := 31) (by decide +kernel) (by decide) rfl ?_
    exact gv_iret .int (by decide +kernel) rfl rfl (by decide) (by decide) (gd_rE h)
def R_G_home (a : Int32) (σ : gS) : gP :=
 gd_p0 (R_G_needWord a σ) <|
 if (gI σ 0 11) = 0 then
  some (.inl (some (.int a)))
 else
  gd_g (gd_in a 1040) <|
  some (.inl (some (.int (gA σ 40 a.toNatClampNeg))))
set_option maxRecDepth 20000 in
theorem X_G_home (a : Int32) (σ : gS) (r0 : gQ) (h : R_G_home a σ = some r0) : gv_K m_G_home [.ref 0, .int a] σ (gv_is r0 σ) := by
  unfold R_G_home at h
  show gv_V m_G_home 1 true 0 [some (.ref 0), some (.int a)] [] σ (gv_is r0 σ)
  refine gv_aload_n (n := 0) (pc' := 1) (by decide +kernel) rfl rfl ?_
  refine gv_iload_n (n := 1) (pc' := 2) (by decide +kernel) rfl rfl ?_
  refine gd_ev0 (w' := true) (pc' := 5) (X_G_needWord _ _) h md_G_needWord vd_G_needWord (Or.inl ml_0_103) (by decide +kernel) (by decide) rfl rfl rfl (Nat.le_of_ble_eq_true rfl) (Nat.le_of_ble_eq_true rfl) (by decide) rfl (fun z => ⟨rfl, z⟩) (by decide) rfl (fun h => ?_)
  refine gv_aload_n (n := 0) (pc' := 6) (by decide +kernel) rfl rfl ?_
  refine gv_getj lk_0_77 (by decide +kernel) rfl rfl (pc' := 9) rfl ?_
  refine gv_if_eq (off := 15) (tgt := 24) (pc' := 12) (by decide +kernel) (by decide) rfl (fun c9 => ?_) (fun c9 => ?_)
  · replace h := gd_T c9 h
    refine gv_iload_n (n := 1) (pc' := 25) (by decide +kernel) rfl rfl ?_
    exact gv_iret .int (by decide +kernel) rfl rfl (by decide) (by decide) (gd_pE h)
  · replace h := gd_F c9 h
    refine gv_aload_n (n := 0) (pc' := 13) (by decide +kernel) rfl rfl ?_
    refine gv_getr lk_0_59 (by decide +kernel) rfl rfl (pc' := 16) rfl ?_
    refine gv_getr lk_0_180 (by decide +kernel) rfl rfl (pc' := 19) rfl ?_
    refine gv_iload_n (n := 1) (pc' := 20) (by decide +kernel) rfl rfl ?_
    obtain ⟨g20, h⟩ := gd_gE h
    refine gj_iald _ (pc' := 21) (by decide +kernel) rfl (gd_inv g20) rfl rfl ?_
    refine gv_goto (off := 4) (tgt := 25) (by decide +kernel) (by decide) ?_
    exact gv_iret .int (by decide +kernel) rfl rfl (by decide) (by decide) (gd_pE h)
def R_M_thrown (σ : gS) : gP :=
 some (.inl (some (.int (gI σ 41 0))))
set_option maxRecDepth 20000 in
theorem X_M_thrown (σ : gS) (r0 : gQ) (h : R_M_thrown σ = some r0) : gv_K m_M_thrown [.ref 41] σ (gv_is r0 σ) := by
  unfold R_M_thrown at h
  show gv_V m_M_thrown 1 true 0 [some (.ref 41)] [] σ (gv_is r0 σ)
  refine gv_aload_n (n := 0) (pc' := 1) (by decide +kernel) rfl rfl ?_
  refine gv_getj lk_9_92 (by decide +kernel) rfl rfl (pc' := 4) rfl ?_
  exact gv_iret .int (by decide +kernel) rfl rfl (by decide) (by decide) (gd_pE h)
def F_M_changed (σ : gS) : gR :=
 gd_s (gs_I σ 41 5 0) fun s1 =>
 gd_s (gs_I s1 41 4 0) fun s2 =>
 some (.inl none, s2)
set_option maxRecDepth 20000 in
theorem X_M_changed (σ : gS) (r0 : gQ × gS) (h : F_M_changed σ = some r0) : gv_K m_M_changed [.ref 41] σ (gv_is r0.1 r0.2) := by
  unfold F_M_changed at h
  show gv_V m_M_changed 1 true 0 [some (.ref 41)] [] σ (gv_is r0.1 r0.2)
  refine gv_aload_n (n := 0) (pc' := 1) (by decide +kernel) rfl rfl ?_
  refine gv_iconst (n := 0) (v := 0) (pc' := 2) (by decide +kernel) (by decide) rfl ?_
  refine gd_puti lp_9_95 (by decide +kernel) rfl rfl rfl rfl (pc' := 5) rfl h (fun s1 h => ?_)
  refine gv_aload_n (n := 0) (pc' := 6) (by decide +kernel) rfl rfl ?_
  refine gv_iconst (n := 0) (v := 0) (pc' := 7) (by decide +kernel) (by decide) rfl ?_
  refine gd_puti lp_9_99 (by decide +kernel) rfl rfl rfl rfl (pc' := 10) rfl h (fun s2 h => ?_)
  exact gv_ret (by decide +kernel) rfl (by decide) (by decide) (gd_rE h)
def F_M_word (a : Int32) (σ : gS) : gR :=
 gd_s (gs_I σ 41 0 0) fun s1 =>
 if (gI s1 41 2) < 520 then
  gd_g (gd_in (gI s1 41 2) 1040) <|
  gd_s (gs_A s1 42 (gI s1 41 2).toNatClampNeg a) fun s2 =>
  gd_s (gs_I s2 41 2 ((gI s2 41 2) + (1 : Int32))) fun s3 =>
  gd_0 (F_M_changed s3) fun s4 =>
  some (.inl (some (.int (gI s4 41 2))), s4)
 else
  some (.inl (some (.int (-1))), s1)
set_option maxRecDepth 20000 in
theorem X_M_word (a : Int32) (σ : gS) (r0 : gQ × gS) (h : F_M_word a σ = some r0) : gv_K m_M_word [.ref 41, .int a] σ (gv_is r0.1 r0.2) := by
  unfold F_M_word at h
  show gv_V m_M_word 1 true 0 [some (.ref 41), some (.int a)] [] σ (gv_is r0.1 r0.2)
  refine gv_aload_n (n := 0) (pc' := 1) (by decide +kernel) rfl rfl ?_
  refine gv_iconst (n := 0) (v := 0) (pc' := 2) (by decide +kernel) (by decide) rfl ?_
  refine gd_puti lp_9_92 (by decide +kernel) rfl rfl rfl rfl (pc' := 5) rfl h (fun s1 h => ?_)
  refine gv_aload_n (n := 0) (pc' := 6) (by decide +kernel) rfl rfl ?_
  refine gv_getj lk_9_102 (by decide +kernel) rfl rfl (pc' := 9) rfl ?_
  refine gv_sipush (n := 520) (v := 520) (pc' := 12) (by decide +kernel) (by decide) rfl ?_
  refine gv_icmp_lt (off := 5) (tgt := 17) (pc' := 15) (by decide +kernel) (by decide) rfl (fun c12 => ?_) (fun c12 => ?_)
  · replace h := gd_T c12 h
    refine gv_aload_n (n := 0) (pc' := 18) (by decide +kernel) rfl rfl ?_
    refine gv_getr lk_9_7 (by decide +kernel) rfl rfl (pc' := 21) rfl ?_
    refine gv_aload_n (n := 0) (pc' := 22) (by decide +kernel) rfl rfl ?_
    refine gv_getj lk_9_102 (by decide +kernel) rfl rfl (pc' := 25) rfl ?_
    refine gv_iload_n (n := 1) (pc' := 26) (by decide +kernel) rfl rfl ?_
    obtain ⟨g26, h⟩ := gd_gE h
    refine gd_iast (pc' := 27) (by decide +kernel) rfl (gd_inv g26) rfl h (fun s2 h => ?_)
    refine gv_aload_n (n := 0) (pc' := 28) (by decide +kernel) rfl rfl ?_
    refine gv_dup (pc' := 29) (by decide +kernel) rfl rfl ?_
    refine gv_getj lk_9_102 (by decide +kernel) rfl rfl (pc' := 32) rfl ?_
    refine gv_iconst (n := 1) (v := 1) (pc' := 33) (by decide +kernel) (by decide) rfl ?_
    refine gv_iadd (pc' := 34) (by decide +kernel) rfl ?_
    refine gd_puti lp_9_102 (by decide +kernel) rfl rfl rfl rfl (pc' := 37) rfl h (fun s3 h => ?_)
    refine gv_aload_n (n := 0) (pc' := 38) (by decide +kernel) rfl rfl ?_
    refine gd_cv0 (w' := false) (pc' := 41) (X_M_changed _) h md_M_changed vd_M_changed (Or.inl ml_9_105) (by decide +kernel) (by decide) rfl rfl rfl (Nat.le_of_ble_eq_true rfl) (Nat.le_of_ble_eq_true rfl) (by decide) rfl (fun z => by cases z) (by decide) rfl (fun s4 h => ?_)
    refine gv_aload_n (n := 0) (pc' := 42) (by decide +kernel) rfl rfl ?_
    refine gv_getj lk_9_102 (by decide +kernel) rfl rfl (pc' := 45) rfl ?_
    exact gv_iret .int (by decide +kernel) rfl rfl (by decide) (by decide) (gd_rE h)
  · replace h := gd_F c12 h
    refine gv_iconst (n := (-1)) (v := (-1)) (pc' := 16) (by decide +kernel) (by decide) rfl ?_
    exact gv_iret .int (by decide +kernel) rfl rfl (by decide) (by decide) (gd_rE h)
def B_M_again_58 (k9 : gS → gR) (x_1_4 : Int32) (x_2_5 : Int32) (ag8 : Int32 → gS → gR) (n_3_6 : Int32) (s7 : gS) : gR :=
 if (x_1_4 * x_2_5) ≤ n_3_6 then
  k9 s7
 else
  gd_g (gd_in ((gI s7 41 2) - x_1_4) 1040) <|
  gd_g (gd_in (gI s7 41 2) 1040) <|
  gd_s (gs_A s7 42 (gI s7 41 2).toNatClampNeg (gA s7 42 ((gI s7 41 2) - x_1_4).toNatClampNeg)) fun s10 =>
  gd_s (gs_I s10 41 2 ((gI s10 41 2) + (1 : Int32))) fun s11 =>
  ag8 (n_3_6 + 1) s11
set_option maxRecDepth 20000 in
theorem L_M_again_58 (k9 : gS → gR) (x_1_4 : Int32) (x_2_5 : Int32) (r0 : gQ × gS) (hk9 : ∀ (s12 : gS), k9 s12 = some r0 → gv_V m_M_again 1 false 101 [some (.ref 41), none, none, none] [] s12 (gv_is r0.1 r0.2)) (n : Nat) : ∀ (n_3_6 : Int32) (s7 : gS), gd_lp (fun _ _ => none) (B_M_again_58 k9 x_1_4 x_2_5) n n_3_6 s7 = some r0 → gv_V m_M_again 1 false 58 [some (.ref 41), some (.int x_1_4), some (.int x_2_5), some (.int n_3_6)] [] s7 (gv_is r0.1 r0.2) := by
  refine gd_lpC (fun (ag8 : Int32 → gS → gR) => ∀ (n_3_6 : Int32) (s7 : gS), ag8 n_3_6 s7 = some r0 → gv_V m_M_again 1 false 58 [some (.ref 41), some (.int x_1_4), some (.int x_2_5), some (.int n_3_6)] [] s7 (gv_is r0.1 r0.2)) (fun n_3_6 s7 h => by cases h) (fun ag8 ih n_3_6 s7 h => ?_) n
  unfold B_M_again_58 at h
  refine gv_iload_n (n := 3) (pc' := 59) (by decide +kernel) rfl rfl ?_
  refine gv_iload_n (n := 1) (pc' := 60) (by decide +kernel) rfl rfl ?_
  refine gv_iload_n (n := 2) (pc' := 61) (by decide +kernel) rfl rfl ?_
  refine gv_imul (pc' := 62) (by decide +kernel) rfl ?_
  refine gv_icmp_ge (off := 39) (tgt := 101) (pc' := 65) (by decide +kernel) (by decide) rfl (fun c62 => ?_) (fun c62 => ?_)
  · replace h := gd_T c62 h
    exact gd_ar (gl_s (gl_n (gl_n (gl_n gl_z)))) (fun z => by cases z) (hk9 _ h)
  · replace h := gd_F c62 h
    refine gv_aload_n (n := 0) (pc' := 66) (by decide +kernel) rfl rfl ?_
    refine gv_getr lk_9_7 (by decide +kernel) rfl rfl (pc' := 69) rfl ?_
    refine gv_aload_n (n := 0) (pc' := 70) (by decide +kernel) rfl rfl ?_
    refine gv_getj lk_9_102 (by decide +kernel) rfl rfl (pc' := 73) rfl ?_
    refine gv_aload_n (n := 0) (pc' := 74) (by decide +kernel) rfl rfl ?_
    refine gv_getr lk_9_7 (by decide +kernel) rfl rfl (pc' := 77) rfl ?_
    refine gv_aload_n (n := 0) (pc' := 78) (by decide +kernel) rfl rfl ?_
    refine gv_getj lk_9_102 (by decide +kernel) rfl rfl (pc' := 81) rfl ?_
    refine gv_iload_n (n := 1) (pc' := 82) (by decide +kernel) rfl rfl ?_
    refine gv_isub (pc' := 83) (by decide +kernel) rfl ?_
    obtain ⟨g83, h⟩ := gd_gE h
    refine gj_iald _ (pc' := 84) (by decide +kernel) rfl (gd_inv g83) rfl rfl ?_
    obtain ⟨g84, h⟩ := gd_gE h
    refine gd_iast (pc' := 85) (by decide +kernel) rfl (gd_inv g84) rfl h (fun s10 h => ?_)
    refine gv_aload_n (n := 0) (pc' := 86) (by decide +kernel) rfl rfl ?_
    refine gv_dup (pc' := 87) (by decide +kernel) rfl rfl ?_
    refine gv_getj lk_9_102 (by decide +kernel) rfl rfl (pc' := 90) rfl ?_
    refine gv_iconst (n := 1) (v := 1) (pc' := 91) (by decide +kernel) (by decide) rfl ?_
    refine gv_iadd (pc' := 92) (by decide +kernel) rfl ?_
    refine gd_puti lp_9_102 (by decide +kernel) rfl rfl rfl rfl (pc' := 95) rfl h (fun s11 h => ?_)
    refine gv_iincc (i := 3) (n := 1) (c := 1) (pc' := 98) (by decide +kernel) rfl (by decide) (by decide) rfl ?_
    refine gv_goto (off := -40) (tgt := 58) (by decide +kernel) (by decide) ?_
    exact gd_ar (gl_s (gl_s (gl_s (gl_s gl_z)))) (fun z => by cases z) (ih _ _ h)
def F_M_again (a : Int32) (b : Int32) (σ : gS) : gR :=
 gd_t (α := Int32) (if a < 1 then
   1
  else
   if (gI σ 41 2) < a then
    1
   else
    if 1 ≤ b then
     0
    else
     1) fun v2 =>
 gd_s (gs_I σ 41 0 v2) fun s3 =>
 if (gI s3 41 0) ≤ 0 then
  if (lg_cmp ((Int32.toInt64 (gI s3 41 2)) + ((Int32.toInt64 a) * (Int32.toInt64 b))) (520 : Int64)) ≤ 0 then
   gd_j (α := gS → gR) (fun (s12 : gS) =>
    gd_0 (F_M_changed s12) fun s13 =>
    some (.inl (some (.int (gI s13 41 2))), s13)) fun k9 =>
   gd_lp (fun _ _ => none) (B_M_again_58 k9 a b) gd_N 0 s3
  else
   some (.inl (some (.int (-1))), s3)
 else
  some (.inl (some (.int 0)), s3)
set_option maxRecDepth 20000 in
theorem X_M_again (a : Int32) (b : Int32) (σ : gS) (r0 : gQ × gS) (h : F_M_again a b σ = some r0) : gv_K m_M_again [.ref 41, .int a, .int b] σ (gv_is r0.1 r0.2) := by
  unfold F_M_again at h
  show gv_V m_M_again 1 true 0 [some (.ref 41), some (.int a), some (.int b), none] [] σ (gv_is r0.1 r0.2)
  refine gv_aload_n (n := 0) (pc' := 1) (by decide +kernel) rfl rfl ?_
  refine gv_iload_n (n := 1) (pc' := 2) (by decide +kernel) rfl rfl ?_
  refine gv_iconst (n := 1) (v := 1) (pc' := 3) (by decide +kernel) (by decide) rfl ?_
  refine gd_tC (fun (v2 : Int32) => gv_V m_M_again 1 true 24 [some (.ref 41), some (.int a), some (.int b), none] [.int v2, .ref 41] σ (gv_is r0.1 r0.2)) h (fun v2 h => ?_) (fun KJ1 hJ1 h => ?_)
  · refine gd_puti lp_9_92 (by decide +kernel) rfl rfl rfl rfl (pc' := 27) rfl h (fun s3 h => ?_)
    refine gv_aload_n (n := 0) (pc' := 28) (by decide +kernel) rfl rfl ?_
    refine gv_getj lk_9_92 (by decide +kernel) rfl rfl (pc' := 31) rfl ?_
    refine gv_if_le (off := 5) (tgt := 36) (pc' := 34) (by decide +kernel) (by decide) rfl (fun c31 => ?_) (fun c31 => ?_)
    · replace h := gd_T c31 h
      refine gv_aload_n (n := 0) (pc' := 37) (by decide +kernel) rfl rfl ?_
      refine gv_getj lk_9_102 (by decide +kernel) rfl rfl (pc' := 40) rfl ?_
      refine gv_i2l (pc' := 41) (by decide +kernel) rfl ?_
      refine gv_iload_n (n := 1) (pc' := 42) (by decide +kernel) rfl rfl ?_
      refine gv_i2l (pc' := 43) (by decide +kernel) rfl ?_
      refine gv_iload_n (n := 2) (pc' := 44) (by decide +kernel) rfl rfl ?_
      refine gv_i2l (pc' := 45) (by decide +kernel) rfl ?_
      refine gv_lmul (pc' := 46) (by decide +kernel) rfl ?_
      refine gv_ladd (pc' := 47) (by decide +kernel) rfl ?_
      refine gv_ldc2 (v := 520) (pc' := 50) (by decide +kernel) cn_9_108 rfl ?_
      refine gv_lcmp (pc' := 51) (by decide +kernel) rfl ?_
      refine gv_if_le (off := 5) (tgt := 56) (pc' := 54) (by decide +kernel) (by decide) rfl (fun c51 => ?_) (fun c51 => ?_)
      · replace h := gd_T c51 h
        refine gv_iconst (n := 0) (v := 0) (pc' := 57) (by decide +kernel) (by decide) rfl ?_
        refine gv_istore_n (n := 3) (pc' := 58) (by decide +kernel) (by decide) rfl ?_
        refine gd_jC (fun k9 => ∀ (s12 : gS), k9 s12 = some r0 → gv_V m_M_again 1 false 101 [some (.ref 41), none, none, none] [] s12 (gv_is r0.1 r0.2)) h (fun s12 h => ?_) (fun k9 hk9 h => ?_)
        · refine gv_aload_n (n := 0) (pc' := 102) (by decide +kernel) rfl rfl ?_
          refine gd_cv0 (w' := false) (pc' := 105) (X_M_changed _) h md_M_changed vd_M_changed (Or.inl ml_9_105) (by decide +kernel) (by decide) rfl rfl rfl (Nat.le_of_ble_eq_true rfl) (Nat.le_of_ble_eq_true rfl) (by decide) rfl (fun z => by cases z) (by decide) rfl (fun s13 h => ?_)
          refine gv_aload_n (n := 0) (pc' := 106) (by decide +kernel) rfl rfl ?_
          refine gv_getj lk_9_102 (by decide +kernel) rfl rfl (pc' := 109) rfl ?_
          exact gv_iret .int (by decide +kernel) rfl rfl (by decide) (by decide) (gd_rE h)
        exact gd_ar (gl_s (gl_s (gl_s (gl_s gl_z)))) (fun z => by cases z) (L_M_again_58 _ _ _ r0 hk9 _ _ _ h)
      · replace h := gd_F c51 h
        refine gv_iconst (n := (-1)) (v := (-1)) (pc' := 55) (by decide +kernel) (by decide) rfl ?_
        exact gv_iret .int (by decide +kernel) rfl rfl (by decide) (by decide) (gd_rE h)
    · replace h := gd_F c31 h
      refine gv_iconst (n := 0) (v := 0) (pc' := 35) (by decide +kernel) (by decide) rfl ?_
      exact gv_iret .int (by decide +kernel) rfl rfl (by decide) (by decide) (gd_rE h)
  · refine gv_icmp_lt (off := 16) (tgt := 19) (pc' := 6) (by decide +kernel) (by decide) rfl (fun c3 => ?_) (fun c3 => ?_)
    · replace h := gd_tT c3 h
      refine gv_iconst (n := 1) (v := 1) (pc' := 20) (by decide +kernel) (by decide) rfl ?_
      refine gv_goto (off := 4) (tgt := 24) (by decide +kernel) (by decide) ?_
      exact gd_ar (gl_s (gl_s (gl_s (gl_n gl_z)))) (fun _ => rfl) (hJ1 _ h)
    · replace h := gd_tF c3 h
      refine gv_iload_n (n := 1) (pc' := 7) (by decide +kernel) rfl rfl ?_
      refine gv_aload_n (n := 0) (pc' := 8) (by decide +kernel) rfl rfl ?_
      refine gv_getj lk_9_102 (by decide +kernel) rfl rfl (pc' := 11) rfl ?_
      refine gv_icmp_gt (off := 8) (tgt := 19) (pc' := 14) (by decide +kernel) (by decide) rfl (fun c11 => ?_) (fun c11 => ?_)
      · replace h := gd_tT c11 h
        refine gv_iconst (n := 1) (v := 1) (pc' := 20) (by decide +kernel) (by decide) rfl ?_
        refine gv_goto (off := 4) (tgt := 24) (by decide +kernel) (by decide) ?_
        exact gd_ar (gl_s (gl_s (gl_s (gl_n gl_z)))) (fun _ => rfl) (hJ1 _ h)
      · replace h := gd_tF c11 h
        refine gv_iload_n (n := 2) (pc' := 15) (by decide +kernel) rfl rfl ?_
        refine gv_iconst (n := 1) (v := 1) (pc' := 16) (by decide +kernel) (by decide) rfl ?_
        refine gv_icmp_ge (off := 7) (tgt := 23) (pc' := 19) (by decide +kernel) (by decide) rfl (fun c16 => ?_) (fun c16 => ?_)
        · replace h := gd_tT c16 h
          refine gv_iconst (n := 0) (v := 0) (pc' := 24) (by decide +kernel) (by decide) rfl ?_
          exact gd_ar (gl_s (gl_s (gl_s (gl_n gl_z)))) (fun _ => rfl) (hJ1 _ h)
        · replace h := gd_tF c16 h
          refine gv_iconst (n := 1) (v := 1) (pc' := 20) (by decide +kernel) (by decide) rfl ?_
          refine gv_goto (off := 4) (tgt := 24) (by decide +kernel) (by decide) ?_
          exact gd_ar (gl_s (gl_s (gl_s (gl_n gl_z)))) (fun _ => rfl) (hJ1 _ h)
def F_M_clear (σ : gS) : gR :=
 gd_s (gs_I σ 41 0 0) fun s1 =>
 gd_s (gs_I s1 41 2 0) fun s2 =>
 gd_0 (F_M_changed s2) fun s3 =>
 some (.inl (some (.int (gI s1 41 2))), s3)
set_option maxRecDepth 20000 in
theorem X_M_clear (σ : gS) (r0 : gQ × gS) (h : F_M_clear σ = some r0) : gv_K m_M_clear [.ref 41] σ (gv_is r0.1 r0.2) := by
  unfold F_M_clear at h
  show gv_V m_M_clear 1 true 0 [some (.ref 41), none] [] σ (gv_is r0.1 r0.2)
  refine gv_aload_n (n := 0) (pc' := 1) (by decide +kernel) rfl rfl ?_
  refine gv_iconst (n := 0) (v := 0) (pc' := 2) (by decide +kernel) (by decide) rfl ?_
  refine gd_puti lp_9_92 (by decide +kernel) rfl rfl rfl rfl (pc' := 5) rfl h (fun s1 h => ?_)
  refine gv_aload_n (n := 0) (pc' := 6) (by decide +kernel) rfl rfl ?_
  refine gv_getj lk_9_102 (by decide +kernel) rfl rfl (pc' := 9) rfl ?_
  refine gv_istore_n (n := 1) (pc' := 10) (by decide +kernel) (by decide) rfl ?_
  refine gv_aload_n (n := 0) (pc' := 11) (by decide +kernel) rfl rfl ?_
  refine gv_iconst (n := 0) (v := 0) (pc' := 12) (by decide +kernel) (by decide) rfl ?_
  refine gd_puti lp_9_102 (by decide +kernel) rfl rfl rfl rfl (pc' := 15) rfl h (fun s2 h => ?_)
  refine gv_aload_n (n := 0) (pc' := 16) (by decide +kernel) rfl rfl ?_
  refine gd_cv0 (w' := false) (pc' := 19) (X_M_changed _) h md_M_changed vd_M_changed (Or.inl ml_9_105) (by decide +kernel) (by decide) rfl rfl rfl (Nat.le_of_ble_eq_true rfl) (Nat.le_of_ble_eq_true rfl) (by decide) rfl (fun z => by cases z) (by decide) rfl (fun s3 h => ?_)
  refine gv_iload_n (n := 1) (pc' := 20) (by decide +kernel) rfl rfl ?_
  exact gv_iret .int (by decide +kernel) rfl rfl (by decide) (by decide) (gd_rE h)
def F_M_wordAt (a : Int32) (σ : gS) : gR :=
 gd_s (gs_I σ 41 0 0) fun s1 =>
 if a < 0 then
  some (.inl (some (.long (-1))), s1)
 else
  if a < (gI s1 41 2) then
   gd_g (gd_in a 1040) <|
   some (.inl (some (.long ((Int32.toInt64 (gA s1 42 a.toNatClampNeg)) &&& (4294967295 : Int64)))), s1)
  else
   some (.inl (some (.long (-1))), s1)
set_option maxRecDepth 20000 in
theorem X_M_wordAt (a : Int32) (σ : gS) (r0 : gQ × gS) (h : F_M_wordAt a σ = some r0) : gv_K m_M_wordAt [.ref 41, .int a] σ (gv_is r0.1 r0.2) := by
  unfold F_M_wordAt at h
  show gv_V m_M_wordAt 1 true 0 [some (.ref 41), some (.int a)] [] σ (gv_is r0.1 r0.2)
  refine gv_aload_n (n := 0) (pc' := 1) (by decide +kernel) rfl rfl ?_
  refine gv_iconst (n := 0) (v := 0) (pc' := 2) (by decide +kernel) (by decide) rfl ?_
  refine gd_puti lp_9_92 (by decide +kernel) rfl rfl rfl rfl (pc' := 5) rfl h (fun s1 h => ?_)
  refine gv_iload_n (n := 1) (pc' := 6) (by decide +kernel) rfl rfl ?_
  refine gv_if_lt (off := 11) (tgt := 17) (pc' := 9) (by decide +kernel) (by decide) rfl (fun c6 => ?_) (fun c6 => ?_)
  · replace h := gd_T c6 h
    refine gv_ldc2 (v := (-1)) (pc' := 20) (by decide +kernel) cn_9_110 rfl ?_
    refine gv_goto (off := 14) (tgt := 34) (by decide +kernel) (by decide) ?_
    exact gv_lret (by decide +kernel) rfl (by decide) (by decide) (gd_rE h)
  · replace h := gd_F c6 h
    refine gv_iload_n (n := 1) (pc' := 10) (by decide +kernel) rfl rfl ?_
    refine gv_aload_n (n := 0) (pc' := 11) (by decide +kernel) rfl rfl ?_
    refine gv_getj lk_9_102 (by decide +kernel) rfl rfl (pc' := 14) rfl ?_
    refine gv_icmp_lt (off := 9) (tgt := 23) (pc' := 17) (by decide +kernel) (by decide) rfl (fun c14 => ?_) (fun c14 => ?_)
    · replace h := gd_T c14 h
      refine gv_aload_n (n := 0) (pc' := 24) (by decide +kernel) rfl rfl ?_
      refine gv_getr lk_9_7 (by decide +kernel) rfl rfl (pc' := 27) rfl ?_
      refine gv_iload_n (n := 1) (pc' := 28) (by decide +kernel) rfl rfl ?_
      obtain ⟨g28, h⟩ := gd_gE h
      refine gj_iald _ (pc' := 29) (by decide +kernel) rfl (gd_inv g28) rfl rfl ?_
      refine gv_i2l (pc' := 30) (by decide +kernel) rfl ?_
      refine gv_ldc2 (v := 4294967295) (pc' := 33) (by decide +kernel) cn_9_112 rfl ?_
      refine gv_land (pc' := 34) (by decide +kernel) rfl ?_
      exact gv_lret (by decide +kernel) rfl (by decide) (by decide) (gd_rE h)
    · replace h := gd_F c14 h
      refine gv_ldc2 (v := (-1)) (pc' := 20) (by decide +kernel) cn_9_110 rfl ?_
      refine gv_goto (off := 14) (tgt := 34) (by decide +kernel) (by decide) ?_
      exact gv_lret (by decide +kernel) rfl (by decide) (by decide) (gd_rE h)
def f_M_d (a : Int32) : Int32 :=
 (a >>> ((7 : Int32) &&& 31)) &&& (31 : Int32)
set_option maxRecDepth 20000 in
theorem y_M_d (a : Int32) (σ : gS) : gv_K m_M_d [.int a] σ (gv_is (.inl (some (.int (f_M_d a)))) σ) := by
  generalize h : f_M_d a = r0
  unfold f_M_d at h
  show gv_V m_M_d 1 true 0 [some (.int a)] [] σ (gv_is (.inl (some (.int r0))) σ)
  refine gv_iload_n (n := 0) (pc' := 1) (by decide +kernel) rfl rfl ?_
  refine gv_bipush (n := 7) (v := 7) (pc' := 3) (by decide +kernel) (by decide) rfl ?_
  refine gv_ishr (pc' := 4) (by decide +kernel) rfl ?_
  refine gv_bipush (n := 31) (v := 31) (pc' := 6) (by decide +kernel) (by decide) rfl ?_
  refine gv_iand (pc' := 7) (by decide +kernel) rfl ?_
  exact gv_iret .int (by decide +kernel) rfl rfl (by decide) (by decide) (gd_vE h)
def f_M_f (a : Int32) : Int32 :=
 (a >>> ((12 : Int32) &&& 31)) &&& (7 : Int32)
set_option maxRecDepth 20000 in
theorem y_M_f (a : Int32) (σ : gS) : gv_K m_M_f [.int a] σ (gv_is (.inl (some (.int (f_M_f a)))) σ) := by
  generalize h : f_M_f a = r0
  unfold f_M_f at h
  show gv_V m_M_f 1 true 0 [some (.int a)] [] σ (gv_is (.inl (some (.int r0))) σ)
  refine gv_iload_n (n := 0) (pc' := 1) (by decide +kernel) rfl rfl ?_
  refine gv_bipush (n := 12) (v := 12) (pc' := 3) (by decide +kernel) (by decide) rfl ?_
  refine gv_ishr (pc' := 4) (by decide +kernel) rfl ?_
  refine gv_bipush (n := 7) (v := 7) (pc' := 6) (by decide +kernel) (by decide) rfl ?_
  refine gv_iand (pc' := 7) (by decide +kernel) rfl ?_
  exact gv_iret .int (by decide +kernel) rfl rfl (by decide) (by decide) (gd_vE h)
def f_M_g (a : Int32) : Int32 :=
 (a >>> ((25 : Int32) &&& 31)) &&& (127 : Int32)
set_option maxRecDepth 20000 in
theorem y_M_g (a : Int32) (σ : gS) : gv_K m_M_g [.int a] σ (gv_is (.inl (some (.int (f_M_g a)))) σ) := by
  generalize h : f_M_g a = r0
  unfold f_M_g at h
  show gv_V m_M_g 1 true 0 [some (.int a)] [] σ (gv_is (.inl (some (.int r0))) σ)
  refine gv_iload_n (n := 0) (pc' := 1) (by decide +kernel) rfl rfl ?_
  refine gv_bipush (n := 25) (v := 25) (pc' := 3) (by decide +kernel) (by decide) rfl ?_
  refine gv_ishr (pc' := 4) (by decide +kernel) rfl ?_
  refine gv_bipush (n := 127) (v := 127) (pc' := 6) (by decide +kernel) (by decide) rfl ?_
  refine gv_iand (pc' := 7) (by decide +kernel) rfl ?_
  exact gv_iret .int (by decide +kernel) rfl rfl (by decide) (by decide) (gd_vE h)
def f_M_kindOf (a : Int32) : Int32 :=
 if (a &&& (127 : Int32)) = 3 then
  if (f_M_f a) < 3 then
   3
  else
   if (f_M_f a) = 4 then
    3
   else
    if (f_M_f a) = 5 then
     3
    else
     (-1)
 else if (a &&& (127 : Int32)) = 15 then
  if (f_M_f a) = 0 then
   7
  else
   (-1)
 else if (a &&& (127 : Int32)) = 19 then
  if (f_M_f a) = 1 then
   if (f_M_g a) = 0 then
    1
   else
    (-1)
  else
   if (f_M_f a) = 5 then
    if (f_M_g a) = 0 then
     1
    else
     if (f_M_g a) = 32 then
      1
     else
      (-1)
   else
    1
 else if (a &&& (127 : Int32)) = 35 then
  if 3 ≤ (f_M_f a) then
   (-1)
  else
   4
 else if (a &&& (127 : Int32)) = 51 then
  if (f_M_g a) = 0 then
   0
  else
   if (f_M_g a) = 1 then
    0
   else
    if (f_M_g a) = 32 then
     if (f_M_f a) = 0 then
      0
     else
      if (f_M_f a) = 5 then
       0
      else
       (-1)
    else
     (-1)
 else if (a &&& (127 : Int32)) = 55 then
  2
 else if (a &&& (127 : Int32)) = 99 then
  if (f_M_f a) < 2 then
   5
  else
   if (f_M_f a) ≤ 3 then
    (-1)
   else
    5
 else if (a &&& (127 : Int32)) = 111 then
  if (f_M_d a) = 0 then
   6
  else
   (-1)
 else 
  if a = 115 then
   8
  else
   (-1)
set_option maxRecDepth 20000 in
theorem y_M_kindOf (a : Int32) (σ : gS) : gv_K m_M_kindOf [.int a] σ (gv_is (.inl (some (.int (f_M_kindOf a)))) σ) := by
  generalize h : f_M_kindOf a = r0
  unfold f_M_kindOf at h
  show gv_V m_M_kindOf 1 true 0 [some (.int a), none, none] [] σ (gv_is (.inl (some (.int r0))) σ)
  refine gv_iload_n (n := 0) (pc' := 1) (by decide +kernel) rfl rfl ?_
  refine gv_csi (w' := true) (pc' := 4) (y_M_f _ _) md_M_f sd_M_f (Or.inl ml_9_114) (by decide +kernel) (by decide) rfl (Nat.le_of_ble_eq_true rfl) (Nat.le_of_ble_eq_true rfl) (by decide) rfl (fun z => ⟨rfl, z⟩) (by decide) rfl ?_
  refine gv_istore_n (n := 1) (pc' := 5) (by decide +kernel) (by decide) rfl ?_
  refine gv_iload_n (n := 0) (pc' := 6) (by decide +kernel) rfl rfl ?_
  refine gv_csi (w' := true) (pc' := 9) (y_M_g _ _) md_M_g sd_M_g (Or.inl ml_9_118) (by decide +kernel) (by decide) rfl (Nat.le_of_ble_eq_true rfl) (Nat.le_of_ble_eq_true rfl) (by decide) rfl (fun z => ⟨rfl, z⟩) (by decide) rfl ?_
  refine gv_istore_n (n := 2) (pc' := 10) (by decide +kernel) (by decide) rfl ?_
  refine gv_iload_n (n := 0) (pc' := 11) (by decide +kernel) rfl rfl ?_
  refine gv_bipush (n := 127) (v := 127) (pc' := 13) (by decide +kernel) (by decide) rfl ?_
  refine gv_iand (pc' := 14) (by decide +kernel) rfl ?_
  by_cases q14_0 : (a &&& (127 : Int32)) = 3
  · replace h := gd_T q14_0 h
    refine gv_lookup (dflt := 221) (ps := #[(3, 148), (15, 210), (19, 104), (35, 169), (51, 74), (55, 146), (99, 180), (111, 196)]) (len := 74) (off := 148) (tgt := 162) (by decide +kernel) (by decide) (gd_lkT q14_0 (by decide +kernel)) (by decide) ?_
    refine gv_iload_n (n := 1) (pc' := 163) (by decide +kernel) rfl rfl ?_
    refine gv_iconst (n := 3) (v := 3) (pc' := 164) (by decide +kernel) (by decide) rfl ?_
    refine gv_icmp_lt (off := 13) (tgt := 177) (pc' := 167) (by decide +kernel) (by decide) rfl (fun c164 => ?_) (fun c164 => ?_)
    · replace h := gd_T c164 h
      refine gv_iconst (n := 3) (v := 3) (pc' := 178) (by decide +kernel) (by decide) rfl ?_
      refine gv_goto (off := 4) (tgt := 182) (by decide +kernel) (by decide) ?_
      exact gv_iret .int (by decide +kernel) rfl rfl (by decide) (by decide) (gd_vE h)
    · replace h := gd_F c164 h
      refine gv_iload_n (n := 1) (pc' := 168) (by decide +kernel) rfl rfl ?_
      refine gv_iconst (n := 4) (v := 4) (pc' := 169) (by decide +kernel) (by decide) rfl ?_
      refine gv_icmp_eq (off := 8) (tgt := 177) (pc' := 172) (by decide +kernel) (by decide) rfl (fun c169 => ?_) (fun c169 => ?_)
      · replace h := gd_T c169 h
        refine gv_iconst (n := 3) (v := 3) (pc' := 178) (by decide +kernel) (by decide) rfl ?_
        refine gv_goto (off := 4) (tgt := 182) (by decide +kernel) (by decide) ?_
        exact gv_iret .int (by decide +kernel) rfl rfl (by decide) (by decide) (gd_vE h)
      · replace h := gd_F c169 h
        refine gv_iload_n (n := 1) (pc' := 173) (by decide +kernel) rfl rfl ?_
        refine gv_iconst (n := 5) (v := 5) (pc' := 174) (by decide +kernel) (by decide) rfl ?_
        refine gv_icmp_ne (off := 7) (tgt := 181) (pc' := 177) (by decide +kernel) (by decide) rfl (fun c174 => ?_) (fun c174 => ?_)
        · replace h := gd_F c174 h
          refine gv_iconst (n := (-1)) (v := (-1)) (pc' := 182) (by decide +kernel) (by decide) rfl ?_
          exact gv_iret .int (by decide +kernel) rfl rfl (by decide) (by decide) (gd_vE h)
        · replace h := gd_T c174 h
          refine gv_iconst (n := 3) (v := 3) (pc' := 178) (by decide +kernel) (by decide) rfl ?_
          refine gv_goto (off := 4) (tgt := 182) (by decide +kernel) (by decide) ?_
          exact gv_iret .int (by decide +kernel) rfl rfl (by decide) (by decide) (gd_vE h)
  replace h := gd_F q14_0 h
  by_cases q14_1 : (a &&& (127 : Int32)) = 15
  · replace h := gd_T q14_1 h
    refine gv_lookup (dflt := 221) (ps := #[(3, 148), (15, 210), (19, 104), (35, 169), (51, 74), (55, 146), (99, 180), (111, 196)]) (len := 74) (off := 210) (tgt := 224) (by decide +kernel) (by decide) (gd_lkT q14_1 (by decide +kernel)) (by decide) ?_
    refine gv_iload_n (n := 1) (pc' := 225) (by decide +kernel) rfl rfl ?_
    refine gv_if_ne (off := 8) (tgt := 233) (pc' := 228) (by decide +kernel) (by decide) rfl (fun c225 => ?_) (fun c225 => ?_)
    · replace h := gd_F c225 h
      refine gv_iconst (n := (-1)) (v := (-1)) (pc' := 234) (by decide +kernel) (by decide) rfl ?_
      exact gv_iret .int (by decide +kernel) rfl rfl (by decide) (by decide) (gd_vE h)
    · replace h := gd_T c225 h
      refine gv_bipush (n := 7) (v := 7) (pc' := 230) (by decide +kernel) (by decide) rfl ?_
      refine gv_goto (off := 4) (tgt := 234) (by decide +kernel) (by decide) ?_
      exact gv_iret .int (by decide +kernel) rfl rfl (by decide) (by decide) (gd_vE h)
  replace h := gd_F q14_1 h
  by_cases q14_2 : (a &&& (127 : Int32)) = 19
  · replace h := gd_T q14_2 h
    refine gv_lookup (dflt := 221) (ps := #[(3, 148), (15, 210), (19, 104), (35, 169), (51, 74), (55, 146), (99, 180), (111, 196)]) (len := 74) (off := 104) (tgt := 118) (by decide +kernel) (by decide) (gd_lkT q14_2 (by decide +kernel)) (by decide) ?_
    refine gv_iload_n (n := 1) (pc' := 119) (by decide +kernel) rfl rfl ?_
    refine gv_iconst (n := 1) (v := 1) (pc' := 120) (by decide +kernel) (by decide) rfl ?_
    refine gv_icmp_ne (off := 15) (tgt := 135) (pc' := 123) (by decide +kernel) (by decide) rfl (fun c120 => ?_) (fun c120 => ?_)
    · replace h := gd_F c120 h
      refine gv_iload_n (n := 1) (pc' := 136) (by decide +kernel) rfl rfl ?_
      refine gv_iconst (n := 5) (v := 5) (pc' := 137) (by decide +kernel) (by decide) rfl ?_
      refine gv_icmp_ne (off := 21) (tgt := 158) (pc' := 140) (by decide +kernel) (by decide) rfl (fun c137 => ?_) (fun c137 => ?_)
      · replace h := gd_F c137 h
        refine gv_iconst (n := 1) (v := 1) (pc' := 159) (by decide +kernel) (by decide) rfl ?_
        exact gv_iret .int (by decide +kernel) rfl rfl (by decide) (by decide) (gd_vE h)
      · replace h := gd_T c137 h
        refine gv_iload_n (n := 2) (pc' := 141) (by decide +kernel) rfl rfl ?_
        refine gv_if_eq (off := 9) (tgt := 150) (pc' := 144) (by decide +kernel) (by decide) rfl (fun c141 => ?_) (fun c141 => ?_)
        · replace h := gd_T c141 h
          refine gv_iconst (n := 1) (v := 1) (pc' := 151) (by decide +kernel) (by decide) rfl ?_
          refine gv_goto (off := 8) (tgt := 159) (by decide +kernel) (by decide) ?_
          exact gv_iret .int (by decide +kernel) rfl rfl (by decide) (by decide) (gd_vE h)
        · replace h := gd_F c141 h
          refine gv_iload_n (n := 2) (pc' := 145) (by decide +kernel) rfl rfl ?_
          refine gv_bipush (n := 32) (v := 32) (pc' := 147) (by decide +kernel) (by decide) rfl ?_
          refine gv_icmp_ne (off := 7) (tgt := 154) (pc' := 150) (by decide +kernel) (by decide) rfl (fun c147 => ?_) (fun c147 => ?_)
          · replace h := gd_F c147 h
            refine gv_iconst (n := (-1)) (v := (-1)) (pc' := 155) (by decide +kernel) (by decide) rfl ?_
            refine gv_goto (off := 4) (tgt := 159) (by decide +kernel) (by decide) ?_
            exact gv_iret .int (by decide +kernel) rfl rfl (by decide) (by decide) (gd_vE h)
          · replace h := gd_T c147 h
            refine gv_iconst (n := 1) (v := 1) (pc' := 151) (by decide +kernel) (by decide) rfl ?_
            refine gv_goto (off := 8) (tgt := 159) (by decide +kernel) (by decide) ?_
            exact gv_iret .int (by decide +kernel) rfl rfl (by decide) (by decide) (gd_vE h)
    · replace h := gd_T c120 h
      refine gv_iload_n (n := 2) (pc' := 124) (by decide +kernel) rfl rfl ?_
      refine gv_if_ne (off := 7) (tgt := 131) (pc' := 127) (by decide +kernel) (by decide) rfl (fun c124 => ?_) (fun c124 => ?_)
      · replace h := gd_F c124 h
        refine gv_iconst (n := (-1)) (v := (-1)) (pc' := 132) (by decide +kernel) (by decide) rfl ?_
        refine gv_goto (off := 27) (tgt := 159) (by decide +kernel) (by decide) ?_
        exact gv_iret .int (by decide +kernel) rfl rfl (by decide) (by decide) (gd_vE h)
      · replace h := gd_T c124 h
        refine gv_iconst (n := 1) (v := 1) (pc' := 128) (by decide +kernel) (by decide) rfl ?_
        refine gv_goto (off := 31) (tgt := 159) (by decide +kernel) (by decide) ?_
        exact gv_iret .int (by decide +kernel) rfl rfl (by decide) (by decide) (gd_vE h)
  replace h := gd_F q14_2 h
  by_cases q14_3 : (a &&& (127 : Int32)) = 35
  · replace h := gd_T q14_3 h
    refine gv_lookup (dflt := 221) (ps := #[(3, 148), (15, 210), (19, 104), (35, 169), (51, 74), (55, 146), (99, 180), (111, 196)]) (len := 74) (off := 169) (tgt := 183) (by decide +kernel) (by decide) (gd_lkT q14_3 (by decide +kernel)) (by decide) ?_
    refine gv_iload_n (n := 1) (pc' := 184) (by decide +kernel) rfl rfl ?_
    refine gv_iconst (n := 3) (v := 3) (pc' := 185) (by decide +kernel) (by decide) rfl ?_
    refine gv_icmp_ge (off := 7) (tgt := 192) (pc' := 188) (by decide +kernel) (by decide) rfl (fun c185 => ?_) (fun c185 => ?_)
    · replace h := gd_T c185 h
      refine gv_iconst (n := (-1)) (v := (-1)) (pc' := 193) (by decide +kernel) (by decide) rfl ?_
      exact gv_iret .int (by decide +kernel) rfl rfl (by decide) (by decide) (gd_vE h)
    · replace h := gd_F c185 h
      refine gv_iconst (n := 4) (v := 4) (pc' := 189) (by decide +kernel) (by decide) rfl ?_
      refine gv_goto (off := 4) (tgt := 193) (by decide +kernel) (by decide) ?_
      exact gv_iret .int (by decide +kernel) rfl rfl (by decide) (by decide) (gd_vE h)
  replace h := gd_F q14_3 h
  by_cases q14_4 : (a &&& (127 : Int32)) = 51
  · replace h := gd_T q14_4 h
    refine gv_lookup (dflt := 221) (ps := #[(3, 148), (15, 210), (19, 104), (35, 169), (51, 74), (55, 146), (99, 180), (111, 196)]) (len := 74) (off := 74) (tgt := 88) (by decide +kernel) (by decide) (gd_lkT q14_4 (by decide +kernel)) (by decide) ?_
    refine gv_iload_n (n := 2) (pc' := 89) (by decide +kernel) rfl rfl ?_
    refine gv_if_eq (off := 23) (tgt := 112) (pc' := 92) (by decide +kernel) (by decide) rfl (fun c89 => ?_) (fun c89 => ?_)
    · replace h := gd_T c89 h
      refine gv_iconst (n := 0) (v := 0) (pc' := 113) (by decide +kernel) (by decide) rfl ?_
      refine gv_goto (off := 4) (tgt := 117) (by decide +kernel) (by decide) ?_
      exact gv_iret .int (by decide +kernel) rfl rfl (by decide) (by decide) (gd_vE h)
    · replace h := gd_F c89 h
      refine gv_iload_n (n := 2) (pc' := 93) (by decide +kernel) rfl rfl ?_
      refine gv_iconst (n := 1) (v := 1) (pc' := 94) (by decide +kernel) (by decide) rfl ?_
      refine gv_icmp_eq (off := 18) (tgt := 112) (pc' := 97) (by decide +kernel) (by decide) rfl (fun c94 => ?_) (fun c94 => ?_)
      · replace h := gd_T c94 h
        refine gv_iconst (n := 0) (v := 0) (pc' := 113) (by decide +kernel) (by decide) rfl ?_
        refine gv_goto (off := 4) (tgt := 117) (by decide +kernel) (by decide) ?_
        exact gv_iret .int (by decide +kernel) rfl rfl (by decide) (by decide) (gd_vE h)
      · replace h := gd_F c94 h
        refine gv_iload_n (n := 2) (pc' := 98) (by decide +kernel) rfl rfl ?_
        refine gv_bipush (n := 32) (v := 32) (pc' := 100) (by decide +kernel) (by decide) rfl ?_
        refine gv_icmp_ne (off := 16) (tgt := 116) (pc' := 103) (by decide +kernel) (by decide) rfl (fun c100 => ?_) (fun c100 => ?_)
        · replace h := gd_F c100 h
          refine gv_iconst (n := (-1)) (v := (-1)) (pc' := 117) (by decide +kernel) (by decide) rfl ?_
          exact gv_iret .int (by decide +kernel) rfl rfl (by decide) (by decide) (gd_vE h)
        · replace h := gd_T c100 h
          refine gv_iload_n (n := 1) (pc' := 104) (by decide +kernel) rfl rfl ?_
          refine gv_if_eq (off := 8) (tgt := 112) (pc' := 107) (by decide +kernel) (by decide) rfl (fun c104 => ?_) (fun c104 => ?_)
          · replace h := gd_T c104 h
            refine gv_iconst (n := 0) (v := 0) (pc' := 113) (by decide +kernel) (by decide) rfl ?_
            refine gv_goto (off := 4) (tgt := 117) (by decide +kernel) (by decide) ?_
            exact gv_iret .int (by decide +kernel) rfl rfl (by decide) (by decide) (gd_vE h)
          · replace h := gd_F c104 h
            refine gv_iload_n (n := 1) (pc' := 108) (by decide +kernel) rfl rfl ?_
            refine gv_iconst (n := 5) (v := 5) (pc' := 109) (by decide +kernel) (by decide) rfl ?_
            refine gv_icmp_ne (off := 7) (tgt := 116) (pc' := 112) (by decide +kernel) (by decide) rfl (fun c109 => ?_) (fun c109 => ?_)
            · replace h := gd_F c109 h
              refine gv_iconst (n := (-1)) (v := (-1)) (pc' := 117) (by decide +kernel) (by decide) rfl ?_
              exact gv_iret .int (by decide +kernel) rfl rfl (by decide) (by decide) (gd_vE h)
            · replace h := gd_T c109 h
              refine gv_iconst (n := 0) (v := 0) (pc' := 113) (by decide +kernel) (by decide) rfl ?_
              refine gv_goto (off := 4) (tgt := 117) (by decide +kernel) (by decide) ?_
              exact gv_iret .int (by decide +kernel) rfl rfl (by decide) (by decide) (gd_vE h)
  replace h := gd_F q14_4 h
  by_cases q14_5 : (a &&& (127 : Int32)) = 55
  · replace h := gd_T q14_5 h
    refine gv_lookup (dflt := 221) (ps := #[(3, 148), (15, 210), (19, 104), (35, 169), (51, 74), (55, 146), (99, 180), (111, 196)]) (len := 74) (off := 146) (tgt := 160) (by decide +kernel) (by decide) (gd_lkT q14_5 (by decide +kernel)) (by decide) ?_
    refine gv_iconst (n := 2) (v := 2) (pc' := 161) (by decide +kernel) (by decide) rfl ?_
    exact gv_iret .int (by decide +kernel) rfl rfl (by decide) (by decide) (gd_vE h)
  replace h := gd_F q14_5 h
  by_cases q14_6 : (a &&& (127 : Int32)) = 99
  · replace h := gd_T q14_6 h
    refine gv_lookup (dflt := 221) (ps := #[(3, 148), (15, 210), (19, 104), (35, 169), (51, 74), (55, 146), (99, 180), (111, 196)]) (len := 74) (off := 180) (tgt := 194) (by decide +kernel) (by decide) (gd_lkT q14_6 (by decide +kernel)) (by decide) ?_
    refine gv_iload_n (n := 1) (pc' := 195) (by decide +kernel) rfl rfl ?_
    refine gv_iconst (n := 2) (v := 2) (pc' := 196) (by decide +kernel) (by decide) rfl ?_
    refine gv_icmp_lt (off := 8) (tgt := 204) (pc' := 199) (by decide +kernel) (by decide) rfl (fun c196 => ?_) (fun c196 => ?_)
    · replace h := gd_T c196 h
      refine gv_iconst (n := 5) (v := 5) (pc' := 205) (by decide +kernel) (by decide) rfl ?_
      refine gv_goto (off := 4) (tgt := 209) (by decide +kernel) (by decide) ?_
      exact gv_iret .int (by decide +kernel) rfl rfl (by decide) (by decide) (gd_vE h)
    · replace h := gd_F c196 h
      refine gv_iload_n (n := 1) (pc' := 200) (by decide +kernel) rfl rfl ?_
      refine gv_iconst (n := 3) (v := 3) (pc' := 201) (by decide +kernel) (by decide) rfl ?_
      refine gv_icmp_le (off := 7) (tgt := 208) (pc' := 204) (by decide +kernel) (by decide) rfl (fun c201 => ?_) (fun c201 => ?_)
      · replace h := gd_T c201 h
        refine gv_iconst (n := (-1)) (v := (-1)) (pc' := 209) (by decide +kernel) (by decide) rfl ?_
        exact gv_iret .int (by decide +kernel) rfl rfl (by decide) (by decide) (gd_vE h)
      · replace h := gd_F c201 h
        refine gv_iconst (n := 5) (v := 5) (pc' := 205) (by decide +kernel) (by decide) rfl ?_
        refine gv_goto (off := 4) (tgt := 209) (by decide +kernel) (by decide) ?_
        exact gv_iret .int (by decide +kernel) rfl rfl (by decide) (by decide) (gd_vE h)
  replace h := gd_F q14_6 h
  by_cases q14_7 : (a &&& (127 : Int32)) = 111
  · replace h := gd_T q14_7 h
    refine gv_lookup (dflt := 221) (ps := #[(3, 148), (15, 210), (19, 104), (35, 169), (51, 74), (55, 146), (99, 180), (111, 196)]) (len := 74) (off := 196) (tgt := 210) (by decide +kernel) (by decide) (gd_lkT q14_7 (by decide +kernel)) (by decide) ?_
    refine gv_iload_n (n := 0) (pc' := 211) (by decide +kernel) rfl rfl ?_
    refine gv_csi (w' := true) (pc' := 214) (y_M_d _ _) md_M_d sd_M_d (Or.inl ml_9_121) (by decide +kernel) (by decide) rfl (Nat.le_of_ble_eq_true rfl) (Nat.le_of_ble_eq_true rfl) (by decide) rfl (fun z => ⟨rfl, z⟩) (by decide) rfl ?_
    refine gv_if_ne (off := 8) (tgt := 222) (pc' := 217) (by decide +kernel) (by decide) rfl (fun c214 => ?_) (fun c214 => ?_)
    · replace h := gd_F c214 h
      refine gv_iconst (n := (-1)) (v := (-1)) (pc' := 223) (by decide +kernel) (by decide) rfl ?_
      exact gv_iret .int (by decide +kernel) rfl rfl (by decide) (by decide) (gd_vE h)
    · replace h := gd_T c214 h
      refine gv_bipush (n := 6) (v := 6) (pc' := 219) (by decide +kernel) (by decide) rfl ?_
      refine gv_goto (off := 4) (tgt := 223) (by decide +kernel) (by decide) ?_
      exact gv_iret .int (by decide +kernel) rfl rfl (by decide) (by decide) (gd_vE h)
  replace h := gd_F q14_7 h
  refine gv_lookup (dflt := 221) (ps := #[(3, 148), (15, 210), (19, 104), (35, 169), (51, 74), (55, 146), (99, 180), (111, 196)]) (len := 74) (off := 221) (tgt := 235) (by decide +kernel) (by decide) (gd_lk1 q14_0 (by decide) (gd_lk1 q14_1 (by decide) (gd_lk1 q14_2 (by decide) (gd_lk1 q14_3 (by decide) (gd_lk1 q14_4 (by decide) (gd_lk1 q14_5 (by decide) (gd_lk1 q14_6 (by decide) (gd_lk1 q14_7 (by decide) (gd_lk0 _ _))))))))) (by decide) ?_
  refine gv_iload_n (n := 0) (pc' := 236) (by decide +kernel) rfl rfl ?_
  refine gv_bipush (n := 115) (v := 115) (pc' := 238) (by decide +kernel) (by decide) rfl ?_
  refine gv_icmp_ne (off := 8) (tgt := 246) (pc' := 241) (by decide +kernel) (by decide) rfl (fun c238 => ?_) (fun c238 => ?_)
  · replace h := gd_F c238 h
    refine gv_iconst (n := (-1)) (v := (-1)) (pc' := 247) (by decide +kernel) (by decide) rfl ?_
    exact gv_iret .int (by decide +kernel) rfl rfl (by decide) (by decide) (gd_vE h)
  · replace h := gd_T c238 h
    refine gv_bipush (n := 8) (v := 8) (pc' := 243) (by decide +kernel) (by decide) rfl ?_
    refine gv_goto (off := 4) (tgt := 247) (by decide +kernel) (by decide) ?_
    exact gv_iret .int (by decide +kernel) rfl rfl (by decide) (by decide) (gd_vE h)
def R_M_kind (a : Int32) (σ : gS) : gP :=
 gd_g (gd_in a 1040) <|
 some (.inl (some (.int (f_M_kindOf (gA σ 42 a.toNatClampNeg)))))
set_option maxRecDepth 20000 in
theorem X_M_kind (a : Int32) (σ : gS) (r0 : gQ) (h : R_M_kind a σ = some r0) : gv_K m_M_kind [.ref 41, .int a] σ (gv_is r0 σ) := by
  unfold R_M_kind at h
  show gv_V m_M_kind 1 true 0 [some (.ref 41), some (.int a)] [] σ (gv_is r0 σ)
  refine gv_aload_n (n := 0) (pc' := 1) (by decide +kernel) rfl rfl ?_
  refine gv_getr lk_9_7 (by decide +kernel) rfl rfl (pc' := 4) rfl ?_
  refine gv_iload_n (n := 1) (pc' := 5) (by decide +kernel) rfl rfl ?_
  obtain ⟨g5, h⟩ := gd_gE h
  refine gj_iald _ (pc' := 6) (by decide +kernel) rfl (gd_inv g5) rfl rfl ?_
  refine gv_csi (w' := true) (pc' := 9) (y_M_kindOf _ _) md_M_kindOf sd_M_kindOf (Or.inl ml_9_124) (by decide +kernel) (by decide) rfl (Nat.le_of_ble_eq_true rfl) (Nat.le_of_ble_eq_true rfl) (by decide) rfl (fun z => ⟨rfl, z⟩) (by decide) rfl ?_
  exact gv_iret .int (by decide +kernel) rfl rfl (by decide) (by decide) (gd_pE h)
def f_M_offset (a : Int32) : Int32 :=
 if (a &&& (127 : Int32)) = 99 then
  ((((a >>> ((31 : Int32) &&& 31)) <<< ((12 : Int32) &&& 31)) ||| (((a >>> ((7 : Int32) &&& 31)) &&& (1 : Int32)) <<< ((11 : Int32) &&& 31))) ||| (((a >>> ((25 : Int32) &&& 31)) &&& (63 : Int32)) <<< ((5 : Int32) &&& 31))) ||| (((a >>> ((8 : Int32) &&& 31)) &&& (15 : Int32)) <<< ((1 : Int32) &&& 31))
 else
  ((((a >>> ((31 : Int32) &&& 31)) <<< ((20 : Int32) &&& 31)) ||| (((a >>> ((12 : Int32) &&& 31)) &&& (255 : Int32)) <<< ((12 : Int32) &&& 31))) ||| (((a >>> ((20 : Int32) &&& 31)) &&& (1 : Int32)) <<< ((11 : Int32) &&& 31))) ||| (((a >>> ((21 : Int32) &&& 31)) &&& (1023 : Int32)) <<< ((1 : Int32) &&& 31))
set_option maxRecDepth 20000 in
theorem y_M_offset (a : Int32) (σ : gS) : gv_K m_M_offset [.int a] σ (gv_is (.inl (some (.int (f_M_offset a)))) σ) := by
  generalize h : f_M_offset a = r0
  unfold f_M_offset at h
  show gv_V m_M_offset 1 true 0 [some (.int a)] [] σ (gv_is (.inl (some (.int r0))) σ)
  refine gv_iload_n (n := 0) (pc' := 1) (by decide +kernel) rfl rfl ?_
  refine gv_bipush (n := 127) (v := 127) (pc' := 3) (by decide +kernel) (by decide) rfl ?_
  refine gv_iand (pc' := 4) (by decide +kernel) rfl ?_
  refine gv_bipush (n := 99) (v := 99) (pc' := 6) (by decide +kernel) (by decide) rfl ?_
  refine gv_icmp_ne (off := 41) (tgt := 47) (pc' := 9) (by decide +kernel) (by decide) rfl (fun c6 => ?_) (fun c6 => ?_)
  · replace h := gd_F c6 h
    refine gv_iload_n (n := 0) (pc' := 48) (by decide +kernel) rfl rfl ?_
    refine gv_bipush (n := 31) (v := 31) (pc' := 50) (by decide +kernel) (by decide) rfl ?_
    refine gv_ishr (pc' := 51) (by decide +kernel) rfl ?_
    refine gv_bipush (n := 20) (v := 20) (pc' := 53) (by decide +kernel) (by decide) rfl ?_
    refine gv_ishl (pc' := 54) (by decide +kernel) rfl ?_
    refine gv_iload_n (n := 0) (pc' := 55) (by decide +kernel) rfl rfl ?_
    refine gv_bipush (n := 12) (v := 12) (pc' := 57) (by decide +kernel) (by decide) rfl ?_
    refine gv_ishr (pc' := 58) (by decide +kernel) rfl ?_
    refine gv_sipush (n := 255) (v := 255) (pc' := 61) (by decide +kernel) (by decide) rfl ?_
    refine gv_iand (pc' := 62) (by decide +kernel) rfl ?_
    refine gv_bipush (n := 12) (v := 12) (pc' := 64) (by decide +kernel) (by decide) rfl ?_
    refine gv_ishl (pc' := 65) (by decide +kernel) rfl ?_
    refine gv_ior (pc' := 66) (by decide +kernel) rfl ?_
    refine gv_iload_n (n := 0) (pc' := 67) (by decide +kernel) rfl rfl ?_
    refine gv_bipush (n := 20) (v := 20) (pc' := 69) (by decide +kernel) (by decide) rfl ?_
    refine gv_ishr (pc' := 70) (by decide +kernel) rfl ?_
    refine gv_iconst (n := 1) (v := 1) (pc' := 71) (by decide +kernel) (by decide) rfl ?_
    refine gv_iand (pc' := 72) (by decide +kernel) rfl ?_
    refine gv_bipush (n := 11) (v := 11) (pc' := 74) (by decide +kernel) (by decide) rfl ?_
    refine gv_ishl (pc' := 75) (by decide +kernel) rfl ?_
    refine gv_ior (pc' := 76) (by decide +kernel) rfl ?_
    refine gv_iload_n (n := 0) (pc' := 77) (by decide +kernel) rfl rfl ?_
    refine gv_bipush (n := 21) (v := 21) (pc' := 79) (by decide +kernel) (by decide) rfl ?_
    refine gv_ishr (pc' := 80) (by decide +kernel) rfl ?_
    refine gv_sipush (n := 1023) (v := 1023) (pc' := 83) (by decide +kernel) (by decide) rfl ?_
    refine gv_iand (pc' := 84) (by decide +kernel) rfl ?_
    refine gv_iconst (n := 1) (v := 1) (pc' := 85) (by decide +kernel) (by decide) rfl ?_
    refine gv_ishl (pc' := 86) (by decide +kernel) rfl ?_
    refine gv_ior (pc' := 87) (by decide +kernel) rfl ?_
    exact gv_iret .int (by decide +kernel) rfl rfl (by decide) (by decide) (gd_vE h)
  · replace h := gd_T c6 h
    refine gv_iload_n (n := 0) (pc' := 10) (by decide +kernel) rfl rfl ?_
    refine gv_bipush (n := 31) (v := 31) (pc' := 12) (by decide +kernel) (by decide) rfl ?_
    refine gv_ishr (pc' := 13) (by decide +kernel) rfl ?_
    refine gv_bipush (n := 12) (v := 12) (pc' := 15) (by decide +kernel) (by decide) rfl ?_
    refine gv_ishl (pc' := 16) (by decide +kernel) rfl ?_
    refine gv_iload_n (n := 0) (pc' := 17) (by decide +kernel) rfl rfl ?_
    refine gv_bipush (n := 7) (v := 7) (pc' := 19) (by decide +kernel) (by decide) rfl ?_
    refine gv_ishr (pc' := 20) (by decide +kernel) rfl ?_
    refine gv_iconst (n := 1) (v := 1) (pc' := 21) (by decide +kernel) (by decide) rfl ?_
    refine gv_iand (pc' := 22) (by decide +kernel) rfl ?_
    refine gv_bipush (n := 11) (v := 11) (pc' := 24) (by decide +kernel) (by decide) rfl ?_
    refine gv_ishl (pc' := 25) (by decide +kernel) rfl ?_
    refine gv_ior (pc' := 26) (by decide +kernel) rfl ?_
    refine gv_iload_n (n := 0) (pc' := 27) (by decide +kernel) rfl rfl ?_
    refine gv_bipush (n := 25) (v := 25) (pc' := 29) (by decide +kernel) (by decide) rfl ?_
    refine gv_ishr (pc' := 30) (by decide +kernel) rfl ?_
    refine gv_bipush (n := 63) (v := 63) (pc' := 32) (by decide +kernel) (by decide) rfl ?_
    refine gv_iand (pc' := 33) (by decide +kernel) rfl ?_
    refine gv_iconst (n := 5) (v := 5) (pc' := 34) (by decide +kernel) (by decide) rfl ?_
    refine gv_ishl (pc' := 35) (by decide +kernel) rfl ?_
    refine gv_ior (pc' := 36) (by decide +kernel) rfl ?_
    refine gv_iload_n (n := 0) (pc' := 37) (by decide +kernel) rfl rfl ?_
    refine gv_bipush (n := 8) (v := 8) (pc' := 39) (by decide +kernel) (by decide) rfl ?_
    refine gv_ishr (pc' := 40) (by decide +kernel) rfl ?_
    refine gv_bipush (n := 15) (v := 15) (pc' := 42) (by decide +kernel) (by decide) rfl ?_
    refine gv_iand (pc' := 43) (by decide +kernel) rfl ?_
    refine gv_iconst (n := 1) (v := 1) (pc' := 44) (by decide +kernel) (by decide) rfl ?_
    refine gv_ishl (pc' := 45) (by decide +kernel) rfl ?_
    refine gv_ior (pc' := 46) (by decide +kernel) rfl ?_
    exact gv_iret .int (by decide +kernel) rfl rfl (by decide) (by decide) (gd_vE h)
def R_M_target (a : Int32) (σ : gS) : gP :=
 gd_g (gd_in a 1040) <|
 some (.inl (some (.int (a + ((f_M_offset (gA σ 42 a.toNatClampNeg)) / (4 : Int32))))))
set_option maxRecDepth 20000 in
theorem X_M_target (a : Int32) (σ : gS) (r0 : gQ) (h : R_M_target a σ = some r0) : gv_K m_M_target [.ref 41, .int a] σ (gv_is r0 σ) := by
  unfold R_M_target at h
  show gv_V m_M_target 1 true 0 [some (.ref 41), some (.int a)] [] σ (gv_is r0 σ)
  refine gv_iload_n (n := 1) (pc' := 1) (by decide +kernel) rfl rfl ?_
  refine gv_aload_n (n := 0) (pc' := 2) (by decide +kernel) rfl rfl ?_
  refine gv_getr lk_9_7 (by decide +kernel) rfl rfl (pc' := 5) rfl ?_
  refine gv_iload_n (n := 1) (pc' := 6) (by decide +kernel) rfl rfl ?_
  obtain ⟨g6, h⟩ := gd_gE h
  refine gj_iald _ (pc' := 7) (by decide +kernel) rfl (gd_inv g6) rfl rfl ?_
  refine gv_csi (w' := true) (pc' := 10) (y_M_offset _ _) md_M_offset sd_M_offset (Or.inl ml_9_127) (by decide +kernel) (by decide) rfl (Nat.le_of_ble_eq_true rfl) (Nat.le_of_ble_eq_true rfl) (by decide) rfl (fun z => ⟨rfl, z⟩) (by decide) rfl ?_
  refine gv_iconst (n := 4) (v := 4) (pc' := 11) (by decide +kernel) (by decide) rfl ?_
  refine gv_idiv (pc' := 12) (by decide +kernel) (by decide) rfl ?_
  refine gv_iadd (pc' := 13) (by decide +kernel) rfl ?_
  exact gv_iret .int (by decide +kernel) rfl rfl (by decide) (by decide) (gd_pE h)
